set_option maxRecDepth 20000 in
theorem ggX4_init_X4_lay : GoodIn wsX4_init wsX4_lay := goodIn_r _ [22, 9, 10, 11, 13, 23, 14, 24, 25, 26, 27, 28, 29, 30, 31, 32, 33, 34, 35, 36, 37, 38, 39, 40] (by decide +kernel) (by decide +kernel)
set_option maxRecDepth 20000 in
theorem gX4_init_X4_lay : GoodIn wsX4_init (wsV RX4 48 RX4 yX4_lay wsX4_lay) := goodIn_app (goodIn_of _ (by decide +kernel)) ggX4_init_X4_lay
theorem dX4_init_0 : decode cX4_init 0 = .ok (.aload_n 0, 1) := by decide +kernel
theorem dX4_init_1 : decode cX4_init 1 = .ok (.invokespecial 1, 3) := by decide +kernel
theorem dX4_init_4 : decode cX4_init 4 = .ok (.aload_n 0, 1) := by decide +kernel
theorem dX4_init_5 : decode cX4_init 5 = .ok (.iconst 5, 1) := by decide +kernel
theorem dX4_init_6 : decode cX4_init 6 = .ok (.putfield 7, 3) := by decide +kernel
theorem dX4_init_9 : decode cX4_init 9 = .ok (.aload_n 0, 1) := by decide +kernel
theorem dX4_init_10 : decode cX4_init 10 = .ok (.iconst 5, 1) := by decide +kernel
theorem dX4_init_11 : decode cX4_init 11 = .ok (.putfield 13, 3) := by decide +kernel
theorem dX4_init_14 : decode cX4_init 14 = .ok (.aload_n 0, 1) := by decide +kernel
theorem dX4_init_15 : decode cX4_init 15 = .ok (.iconst 2, 1) := by decide +kernel
theorem dX4_init_16 : decode cX4_init 16 = .ok (.putfield 16, 3) := by decide +kernel
theorem dX4_init_19 : decode cX4_init 19 = .ok (.aload_n 0, 1) := by decide +kernel
theorem dX4_init_20 : decode cX4_init 20 = .ok (.iconst 2, 1) := by decide +kernel
theorem dX4_init_21 : decode cX4_init 21 = .ok (.newarray .int, 2) := by decide +kernel
theorem dX4_init_23 : decode cX4_init 23 = .ok (.putfield 19, 3) := by decide +kernel
theorem dX4_init_26 : decode cX4_init 26 = .ok (.aload_n 0, 1) := by decide +kernel
theorem dX4_init_27 : decode cX4_init 27 = .ok (.bipush 125, 2) := by decide +kernel
theorem dX4_init_29 : decode cX4_init 29 = .ok (.newarray .int, 2) := by decide +kernel
theorem dX4_init_31 : decode cX4_init 31 = .ok (.putfield 23, 3) := by decide +kernel
theorem dX4_init_34 : decode cX4_init 34 = .ok (.aload_n 0, 1) := by decide +kernel
theorem dX4_init_35 : decode cX4_init 35 = .ok (.bipush 20, 2) := by decide +kernel
theorem dX4_init_37 : decode cX4_init 37 = .ok (.newarray .int, 2) := by decide +kernel
theorem dX4_init_39 : decode cX4_init 39 = .ok (.putfield 26, 3) := by decide +kernel
theorem dX4_init_42 : decode cX4_init 42 = .ok (.aload_n 0, 1) := by decide +kernel
theorem dX4_init_43 : decode cX4_init 43 = .ok (.iconst 5, 1) := by decide +kernel
theorem dX4_init_44 : decode cX4_init 44 = .ok (.newarray .int, 2) := by decide +kernel
theorem dX4_init_46 : decode cX4_init 46 = .ok (.putfield 29, 3) := by decide +kernel
theorem dX4_init_49 : decode cX4_init 49 = .ok (.aload_n 0, 1) := by decide +kernel
theorem dX4_init_50 : decode cX4_init 50 = .ok (.iconst 5, 1) := by decide +kernel
theorem dX4_init_51 : decode cX4_init 51 = .ok (.newarray .boolean, 2) := by decide +kernel
theorem dX4_init_53 : decode cX4_init 53 = .ok (.putfield 32, 3) := by decide +kernel
theorem dX4_init_56 : decode cX4_init 56 = .ok (.aload_n 0, 1) := by decide +kernel
theorem dX4_init_57 : decode cX4_init 57 = .ok (.iconst (-1), 1) := by decide +kernel
theorem dX4_init_58 : decode cX4_init 58 = .ok (.putfield 36, 3) := by decide +kernel
theorem dX4_init_61 : decode cX4_init 61 = .ok (.aload_n 0, 1) := by decide +kernel
theorem dX4_init_62 : decode cX4_init 62 = .ok (.sipush 6000, 3) := by decide +kernel
theorem dX4_init_65 : decode cX4_init 65 = .ok (.newarray .int, 2) := by decide +kernel
theorem dX4_init_67 : decode cX4_init 67 = .ok (.putfield 39, 3) := by decide +kernel
theorem dX4_init_70 : decode cX4_init 70 = .ok (.aload_n 0, 1) := by decide +kernel
theorem dX4_init_71 : decode cX4_init 71 = .ok (.iconst 5, 1) := by decide +kernel
theorem dX4_init_72 : decode cX4_init 72 = .ok (.newarray .int, 2) := by decide +kernel
theorem dX4_init_74 : decode cX4_init 74 = .ok (.putfield 42, 3) := by decide +kernel
theorem dX4_init_77 : decode cX4_init 77 = .ok (.aload_n 0, 1) := by decide +kernel
theorem dX4_init_78 : decode cX4_init 78 = .ok (.iconst 5, 1) := by decide +kernel
theorem dX4_init_79 : decode cX4_init 79 = .ok (.newarray .int, 2) := by decide +kernel
theorem dX4_init_81 : decode cX4_init 81 = .ok (.putfield 45, 3) := by decide +kernel
theorem dX4_init_84 : decode cX4_init 84 = .ok (.aload_n 0, 1) := by decide +kernel
theorem dX4_init_85 : decode cX4_init 85 = .ok (.invokevirtual 48, 3) := by decide +kernel
theorem dX4_init_88 : decode cX4_init 88 = .ok (.return_, 1) := by decide +kernel
theorem dX4_thrown_0 : decode cX4_thrown 0 = .ok (.aload_n 0, 1) := by decide +kernel
theorem dX4_thrown_1 : decode cX4_thrown 1 = .ok (.getfield 51, 3) := by decide +kernel
theorem dX4_thrown_4 : decode cX4_thrown 4 = .ok (.ireturn, 1) := by decide +kernel
theorem dX4_goesWell_0 : decode cX4_goesWell 0 = .ok (.aload_n 0, 1) := by decide +kernel
theorem dX4_goesWell_1 : decode cX4_goesWell 1 = .ok (.iload_n 1, 1) := by decide +kernel
theorem dX4_goesWell_2 : decode cX4_goesWell 2 = .ok (.putfield 51, 3) := by decide +kernel
theorem dX4_goesWell_5 : decode cX4_goesWell 5 = .ok (.iload_n 1, 1) := by decide +kernel
theorem dX4_goesWell_6 : decode cX4_goesWell 6 = .ok (.ifCond .ne 7, 3) := by decide +kernel
theorem dX4_goesWell_9 : decode cX4_goesWell 9 = .ok (.iconst 1, 1) := by decide +kernel
theorem dX4_goesWell_10 : decode cX4_goesWell 10 = .ok (.goto 4, 3) := by decide +kernel
theorem dX4_goesWell_13 : decode cX4_goesWell 13 = .ok (.iconst 0, 1) := by decide +kernel
theorem dX4_goesWell_14 : decode cX4_goesWell 14 = .ok (.ireturn, 1) := by decide +kernel
theorem dX4_in_0 : decode cX4_in 0 = .ok (.iload_n 0, 1) := by decide +kernel
theorem dX4_in_1 : decode cX4_in 1 = .ok (.iload_n 1, 1) := by decide +kernel
theorem dX4_in_2 : decode cX4_in 2 = .ok (.if_icmp .lt 12, 3) := by decide +kernel
theorem dX4_in_5 : decode cX4_in 5 = .ok (.iload_n 0, 1) := by decide +kernel
theorem dX4_in_6 : decode cX4_in 6 = .ok (.iload_n 2, 1) := by decide +kernel
theorem dX4_in_7 : decode cX4_in 7 = .ok (.if_icmp .gt 7, 3) := by decide +kernel
theorem dX4_in_10 : decode cX4_in 10 = .ok (.iconst 1, 1) := by decide +kernel
theorem dX4_in_11 : decode cX4_in 11 = .ok (.goto 4, 3) := by decide +kernel
theorem dX4_in_14 : decode cX4_in 14 = .ok (.iconst 0, 1) := by decide +kernel
theorem dX4_in_15 : decode cX4_in 15 = .ok (.ireturn, 1) := by decide +kernel
theorem dX4_cells_0 : decode cX4_cells 0 = .ok (.aload_n 0, 1) := by decide +kernel
theorem dX4_cells_1 : decode cX4_cells 1 = .ok (.getfield 7, 3) := by decide +kernel
theorem dX4_cells_4 : decode cX4_cells 4 = .ok (.aload_n 0, 1) := by decide +kernel
theorem dX4_cells_5 : decode cX4_cells 5 = .ok (.getfield 13, 3) := by decide +kernel
theorem dX4_cells_8 : decode cX4_cells 8 = .ok (.imul, 1) := by decide +kernel
theorem dX4_cells_9 : decode cX4_cells 9 = .ok (.ireturn, 1) := by decide +kernel
set_option maxRecDepth 20000 in
theorem ggX4_isCell_X4_cells : GoodIn wsX4_isCell wsX4_cells := goodIn_r _ [5, 6, 7, 11, 12, 13, 14, 15, 16, 17, 18, 19, 20, 21, 22, 23, 24, 25, 26] (by decide +kernel) (by decide +kernel)
set_option maxRecDepth 20000 in
theorem gX4_isCell_X4_cells : GoodIn wsX4_isCell (wsV RX4 54 RX4 yX4_cells wsX4_cells) := goodIn_app (goodIn_of _ (by decide +kernel)) ggX4_isCell_X4_cells
set_option maxRecDepth 20000 in
theorem ggX4_isCell_X4_in : GoodIn wsX4_isCell wsX4_in := goodIn_r _ [10] (by decide +kernel) (by decide +kernel)
set_option maxRecDepth 20000 in
theorem gX4_isCell_X4_in : GoodIn wsX4_isCell (va_wsS RX4 58 yX4_in wsX4_in) := goodIn_app (goodIn_of _ (by decide +kernel)) ggX4_isCell_X4_in
theorem dX4_isCell_0 : decode cX4_isCell 0 = .ok (.iload_n 1, 1) := by decide +kernel
theorem dX4_isCell_1 : decode cX4_isCell 1 = .ok (.iconst 0, 1) := by decide +kernel
theorem dX4_isCell_2 : decode cX4_isCell 2 = .ok (.aload_n 0, 1) := by decide +kernel
theorem dX4_isCell_3 : decode cX4_isCell 3 = .ok (.invokevirtual 54, 3) := by decide +kernel
theorem dX4_isCell_6 : decode cX4_isCell 6 = .ok (.iconst 1, 1) := by decide +kernel
theorem dX4_isCell_7 : decode cX4_isCell 7 = .ok (.isub, 1) := by decide +kernel
theorem dX4_isCell_8 : decode cX4_isCell 8 = .ok (.invokestatic 58, 3) := by decide +kernel
theorem dX4_isCell_11 : decode cX4_isCell 11 = .ok (.ireturn, 1) := by decide +kernel
theorem dX4_isPlaced_0 : decode cX4_isPlaced 0 = .ok (.aload_n 0, 1) := by decide +kernel
theorem dX4_isPlaced_1 : decode cX4_isPlaced 1 = .ok (.getfield 62, 3) := by decide +kernel
theorem dX4_isPlaced_4 : decode cX4_isPlaced 4 = .ok (.iconst 2, 1) := by decide +kernel
theorem dX4_isPlaced_5 : decode cX4_isPlaced 5 = .ok (.aload_n 0, 1) := by decide +kernel
theorem dX4_isPlaced_6 : decode cX4_isPlaced 6 = .ok (.getfield 16, 3) := by decide +kernel
theorem dX4_isPlaced_9 : decode cX4_isPlaced 9 = .ok (.imul, 1) := by decide +kernel
theorem dX4_isPlaced_10 : decode cX4_isPlaced 10 = .ok (.if_icmp .ne 7, 3) := by decide +kernel
theorem dX4_isPlaced_13 : decode cX4_isPlaced 13 = .ok (.iconst 1, 1) := by decide +kernel
theorem dX4_isPlaced_14 : decode cX4_isPlaced 14 = .ok (.goto 4, 3) := by decide +kernel
theorem dX4_isPlaced_17 : decode cX4_isPlaced 17 = .ok (.iconst 0, 1) := by decide +kernel
theorem dX4_isPlaced_18 : decode cX4_isPlaced 18 = .ok (.ireturn, 1) := by decide +kernel
theorem dX4_lay_0 : decode cX4_lay 0 = .ok (.iconst 0, 1) := by decide +kernel
theorem dX4_lay_1 : decode cX4_lay 1 = .ok (.istore_n 1, 1) := by decide +kernel
theorem dX4_lay_2 : decode cX4_lay 2 = .ok (.iload_n 1, 1) := by decide +kernel
theorem dX4_lay_3 : decode cX4_lay 3 = .ok (.bipush 25, 2) := by decide +kernel
theorem dX4_lay_5 : decode cX4_lay 5 = .ok (.if_icmp .ge 16, 3) := by decide +kernel
theorem dX4_lay_8 : decode cX4_lay 8 = .ok (.aload_n 0, 1) := by decide +kernel
theorem dX4_lay_9 : decode cX4_lay 9 = .ok (.getfield 23, 3) := by decide +kernel
theorem dX4_lay_12 : decode cX4_lay 12 = .ok (.iload_n 1, 1) := by decide +kernel
theorem dX4_lay_13 : decode cX4_lay 13 = .ok (.iconst 0, 1) := by decide +kernel
theorem dX4_lay_14 : decode cX4_lay 14 = .ok (.iastore, 1) := by decide +kernel
theorem dX4_lay_15 : decode cX4_lay 15 = .ok (.iinc 1 1, 3) := by decide +kernel
theorem dX4_lay_18 : decode cX4_lay 18 = .ok (.goto (-16), 3) := by decide +kernel
theorem dX4_lay_21 : decode cX4_lay 21 = .ok (.iconst 0, 1) := by decide +kernel
theorem dX4_lay_22 : decode cX4_lay 22 = .ok (.istore_n 1, 1) := by decide +kernel
theorem dX4_lay_23 : decode cX4_lay 23 = .ok (.iload_n 1, 1) := by decide +kernel
theorem dX4_lay_24 : decode cX4_lay 24 = .ok (.iconst 4, 1) := by decide +kernel
theorem dX4_lay_25 : decode cX4_lay 25 = .ok (.if_icmp .ge 16, 3) := by decide +kernel
theorem dX4_lay_28 : decode cX4_lay 28 = .ok (.aload_n 0, 1) := by decide +kernel
theorem dX4_lay_29 : decode cX4_lay 29 = .ok (.getfield 26, 3) := by decide +kernel
theorem dX4_lay_32 : decode cX4_lay 32 = .ok (.iload_n 1, 1) := by decide +kernel
theorem dX4_lay_33 : decode cX4_lay 33 = .ok (.iconst (-1), 1) := by decide +kernel
theorem dX4_lay_34 : decode cX4_lay 34 = .ok (.iastore, 1) := by decide +kernel
theorem dX4_lay_35 : decode cX4_lay 35 = .ok (.iinc 1 1, 3) := by decide +kernel
theorem dX4_lay_38 : decode cX4_lay 38 = .ok (.goto (-15), 3) := by decide +kernel
theorem dX4_lay_41 : decode cX4_lay 41 = .ok (.aload_n 0, 1) := by decide +kernel
theorem dX4_lay_42 : decode cX4_lay 42 = .ok (.getfield 29, 3) := by decide +kernel
theorem dX4_lay_45 : decode cX4_lay 45 = .ok (.iconst 0, 1) := by decide +kernel
theorem dX4_lay_46 : decode cX4_lay 46 = .ok (.iconst 0, 1) := by decide +kernel
theorem dX4_lay_47 : decode cX4_lay 47 = .ok (.iastore, 1) := by decide +kernel
theorem dX4_lay_48 : decode cX4_lay 48 = .ok (.aload_n 0, 1) := by decide +kernel
theorem dX4_lay_49 : decode cX4_lay 49 = .ok (.getfield 32, 3) := by decide +kernel
theorem dX4_lay_52 : decode cX4_lay 52 = .ok (.iconst 0, 1) := by decide +kernel
theorem dX4_lay_53 : decode cX4_lay 53 = .ok (.iconst 0, 1) := by decide +kernel
theorem dX4_lay_54 : decode cX4_lay 54 = .ok (.bastore, 1) := by decide +kernel
theorem dX4_lay_55 : decode cX4_lay 55 = .ok (.aload_n 0, 1) := by decide +kernel
theorem dX4_lay_56 : decode cX4_lay 56 = .ok (.iconst 0, 1) := by decide +kernel
theorem dX4_lay_57 : decode cX4_lay 57 = .ok (.putfield 62, 3) := by decide +kernel
theorem dX4_lay_60 : decode cX4_lay 60 = .ok (.aload_n 0, 1) := by decide +kernel
theorem dX4_lay_61 : decode cX4_lay 61 = .ok (.iconst (-1), 1) := by decide +kernel
theorem dX4_lay_62 : decode cX4_lay 62 = .ok (.putfield 36, 3) := by decide +kernel
theorem dX4_lay_65 : decode cX4_lay 65 = .ok (.aload_n 0, 1) := by decide +kernel
theorem dX4_lay_66 : decode cX4_lay 66 = .ok (.iconst 0, 1) := by decide +kernel
theorem dX4_lay_67 : decode cX4_lay 67 = .ok (.putfield 65, 3) := by decide +kernel
theorem dX4_lay_70 : decode cX4_lay 70 = .ok (.return_, 1) := by decide +kernel
set_option maxRecDepth 20000 in
theorem ggX4_begin_X4_in : GoodIn wsX4_begin wsX4_in := goodIn_r _ [8] (by decide +kernel) (by decide +kernel)
set_option maxRecDepth 20000 in
theorem gX4_begin_X4_in : GoodIn wsX4_begin (va_wsS RX4 58 yX4_in wsX4_in) := goodIn_app (goodIn_of _ (by decide +kernel)) ggX4_begin_X4_in
set_option maxRecDepth 20000 in
theorem ggX4_begin_X4_goesWell : GoodIn wsX4_begin wsX4_goesWell := goodIn_r _ [12, 13, 29, 30, 31, 32, 33, 34, 35, 36, 37, 38, 39, 40, 41, 42, 43, 44] (by decide +kernel) (by decide +kernel)
set_option maxRecDepth 20000 in
theorem gX4_begin_X4_goesWell : GoodIn wsX4_begin (wsV RX4 68 RX4 yX4_goesWell wsX4_goesWell) := goodIn_app (goodIn_of _ (by decide +kernel)) ggX4_begin_X4_goesWell
set_option maxRecDepth 20000 in
theorem ggX4_begin_X4_lay : GoodIn wsX4_begin wsX4_lay := goodIn_r _ [17, 18, 19, 20, 21, 22, 23, 24, 29, 30, 31, 32, 33, 34, 35, 36, 37, 38, 39, 40, 41, 42, 43, 44] (by decide +kernel) (by decide +kernel)
set_option maxRecDepth 20000 in
theorem gX4_begin_X4_lay : GoodIn wsX4_begin (wsV RX4 48 RX4 yX4_lay wsX4_lay) := goodIn_app (goodIn_of _ (by decide +kernel)) ggX4_begin_X4_lay
set_option maxRecDepth 20000 in
theorem ggX4_begin_X4_cells : GoodIn wsX4_begin wsX4_cells := goodIn_r _ [28, 1, 2, 29, 30, 31, 32, 33, 34, 35, 36, 37, 38, 39, 40, 41, 42, 43, 44] (by decide +kernel) (by decide +kernel)
set_option maxRecDepth 20000 in
theorem gX4_begin_X4_cells : GoodIn wsX4_begin (wsV RX4 54 RX4 yX4_cells wsX4_cells) := goodIn_app (goodIn_of _ (by decide +kernel)) ggX4_begin_X4_cells
theorem dX4_begin_0 : decode cX4_begin 0 = .ok (.iload_n 1, 1) := by decide +kernel
theorem dX4_begin_1 : decode cX4_begin 1 = .ok (.iconst 2, 1) := by decide +kernel
theorem dX4_begin_2 : decode cX4_begin 2 = .ok (.iconst 5, 1) := by decide +kernel
theorem dX4_begin_3 : decode cX4_begin 3 = .ok (.invokestatic 58, 3) := by decide +kernel
theorem dX4_begin_6 : decode cX4_begin 6 = .ok (.ifCond .eq 25, 3) := by decide +kernel
theorem dX4_begin_9 : decode cX4_begin 9 = .ok (.iload_n 2, 1) := by decide +kernel
theorem dX4_begin_10 : decode cX4_begin 10 = .ok (.iconst 2, 1) := by decide +kernel
theorem dX4_begin_11 : decode cX4_begin 11 = .ok (.iconst 5, 1) := by decide +kernel
theorem dX4_begin_12 : decode cX4_begin 12 = .ok (.invokestatic 58, 3) := by decide +kernel
theorem dX4_begin_15 : decode cX4_begin 15 = .ok (.ifCond .eq 16, 3) := by decide +kernel
theorem dX4_begin_18 : decode cX4_begin 18 = .ok (.iload_n 3, 1) := by decide +kernel
theorem dX4_begin_19 : decode cX4_begin 19 = .ok (.iconst 1, 1) := by decide +kernel
theorem dX4_begin_20 : decode cX4_begin 20 = .ok (.iconst 2, 1) := by decide +kernel
theorem dX4_begin_21 : decode cX4_begin 21 = .ok (.invokestatic 58, 3) := by decide +kernel
theorem dX4_begin_24 : decode cX4_begin 24 = .ok (.ifCond .eq 7, 3) := by decide +kernel
theorem dX4_begin_27 : decode cX4_begin 27 = .ok (.iconst 1, 1) := by decide +kernel
theorem dX4_begin_28 : decode cX4_begin 28 = .ok (.goto 4, 3) := by decide +kernel
theorem dX4_begin_31 : decode cX4_begin 31 = .ok (.iconst 0, 1) := by decide +kernel
theorem dX4_begin_32 : decode cX4_begin 32 = .ok (.istore 6, 2) := by decide +kernel
theorem dX4_begin_34 : decode cX4_begin 34 = .ok (.iload 6, 2) := by decide +kernel
theorem dX4_begin_36 : decode cX4_begin 36 = .ok (.ifCond .eq 38, 3) := by decide +kernel
theorem dX4_begin_39 : decode cX4_begin 39 = .ok (.iload 4, 2) := by decide +kernel
theorem dX4_begin_41 : decode cX4_begin 41 = .ok (.iconst 0, 1) := by decide +kernel
theorem dX4_begin_42 : decode cX4_begin 42 = .ok (.bipush 6, 2) := by decide +kernel
theorem dX4_begin_44 : decode cX4_begin 44 = .ok (.invokestatic 58, 3) := by decide +kernel
theorem dX4_begin_47 : decode cX4_begin 47 = .ok (.ifCond .eq 27, 3) := by decide +kernel
theorem dX4_begin_50 : decode cX4_begin 50 = .ok (.iload 5, 2) := by decide +kernel
theorem dX4_begin_52 : decode cX4_begin 52 = .ok (.iconst 0, 1) := by decide +kernel
theorem dX4_begin_53 : decode cX4_begin 53 = .ok (.bipush 6, 2) := by decide +kernel
theorem dX4_begin_55 : decode cX4_begin 55 = .ok (.invokestatic 58, 3) := by decide +kernel
theorem dX4_begin_58 : decode cX4_begin 58 = .ok (.ifCond .eq 16, 3) := by decide +kernel
theorem dX4_begin_61 : decode cX4_begin 61 = .ok (.iconst 2, 1) := by decide +kernel
theorem dX4_begin_62 : decode cX4_begin 62 = .ok (.iload_n 3, 1) := by decide +kernel
theorem dX4_begin_63 : decode cX4_begin 63 = .ok (.imul, 1) := by decide +kernel
theorem dX4_begin_64 : decode cX4_begin 64 = .ok (.iload_n 1, 1) := by decide +kernel
theorem dX4_begin_65 : decode cX4_begin 65 = .ok (.iload_n 2, 1) := by decide +kernel
theorem dX4_begin_66 : decode cX4_begin 66 = .ok (.imul, 1) := by decide +kernel
theorem dX4_begin_67 : decode cX4_begin 67 = .ok (.if_icmp .ge 7, 3) := by decide +kernel
theorem dX4_begin_70 : decode cX4_begin 70 = .ok (.iconst 1, 1) := by decide +kernel
theorem dX4_begin_71 : decode cX4_begin 71 = .ok (.goto 4, 3) := by decide +kernel
theorem dX4_begin_74 : decode cX4_begin 74 = .ok (.iconst 0, 1) := by decide +kernel
theorem dX4_begin_75 : decode cX4_begin 75 = .ok (.istore 7, 2) := by decide +kernel
theorem dX4_begin_77 : decode cX4_begin 77 = .ok (.aload_n 0, 1) := by decide +kernel
theorem dX4_begin_78 : decode cX4_begin 78 = .ok (.iload 7, 2) := by decide +kernel
theorem dX4_begin_80 : decode cX4_begin 80 = .ok (.ifCond .eq 7, 3) := by decide +kernel
theorem dX4_begin_83 : decode cX4_begin 83 = .ok (.iconst 0, 1) := by decide +kernel
theorem dX4_begin_84 : decode cX4_begin 84 = .ok (.goto 4, 3) := by decide +kernel
theorem dX4_begin_87 : decode cX4_begin 87 = .ok (.iconst 1, 1) := by decide +kernel
theorem dX4_begin_88 : decode cX4_begin 88 = .ok (.invokevirtual 68, 3) := by decide +kernel
theorem dX4_begin_91 : decode cX4_begin 91 = .ok (.ifCond .ne 5, 3) := by decide +kernel
theorem dX4_begin_94 : decode cX4_begin 94 = .ok (.iconst 0, 1) := by decide +kernel
theorem dX4_begin_95 : decode cX4_begin 95 = .ok (.ireturn, 1) := by decide +kernel
theorem dX4_begin_96 : decode cX4_begin 96 = .ok (.aload_n 0, 1) := by decide +kernel
theorem dX4_begin_97 : decode cX4_begin 97 = .ok (.iload_n 1, 1) := by decide +kernel
theorem dX4_begin_98 : decode cX4_begin 98 = .ok (.putfield 7, 3) := by decide +kernel
theorem dX4_begin_101 : decode cX4_begin 101 = .ok (.aload_n 0, 1) := by decide +kernel
theorem dX4_begin_102 : decode cX4_begin 102 = .ok (.iload_n 2, 1) := by decide +kernel
theorem dX4_begin_103 : decode cX4_begin 103 = .ok (.putfield 13, 3) := by decide +kernel
theorem dX4_begin_106 : decode cX4_begin 106 = .ok (.aload_n 0, 1) := by decide +kernel
theorem dX4_begin_107 : decode cX4_begin 107 = .ok (.iload_n 3, 1) := by decide +kernel
theorem dX4_begin_108 : decode cX4_begin 108 = .ok (.putfield 16, 3) := by decide +kernel
theorem dX4_begin_111 : decode cX4_begin 111 = .ok (.aload_n 0, 1) := by decide +kernel
theorem dX4_begin_112 : decode cX4_begin 112 = .ok (.getfield 19, 3) := by decide +kernel
theorem dX4_begin_115 : decode cX4_begin 115 = .ok (.iconst 0, 1) := by decide +kernel
theorem dX4_begin_116 : decode cX4_begin 116 = .ok (.iload 4, 2) := by decide +kernel
theorem dX4_begin_118 : decode cX4_begin 118 = .ok (.iastore, 1) := by decide +kernel
theorem dX4_begin_119 : decode cX4_begin 119 = .ok (.aload_n 0, 1) := by decide +kernel
theorem dX4_begin_120 : decode cX4_begin 120 = .ok (.getfield 19, 3) := by decide +kernel
theorem dX4_begin_123 : decode cX4_begin 123 = .ok (.iconst 1, 1) := by decide +kernel
theorem dX4_begin_124 : decode cX4_begin 124 = .ok (.iload 5, 2) := by decide +kernel
theorem dX4_begin_126 : decode cX4_begin 126 = .ok (.iastore, 1) := by decide +kernel
theorem dX4_begin_127 : decode cX4_begin 127 = .ok (.aload_n 0, 1) := by decide +kernel
theorem dX4_begin_128 : decode cX4_begin 128 = .ok (.invokevirtual 48, 3) := by decide +kernel
theorem dX4_begin_131 : decode cX4_begin 131 = .ok (.aload_n 0, 1) := by decide +kernel
theorem dX4_begin_132 : decode cX4_begin 132 = .ok (.invokevirtual 54, 3) := by decide +kernel
theorem dX4_begin_135 : decode cX4_begin 135 = .ok (.ireturn, 1) := by decide +kernel
theorem dX4_high_0 : decode cX4_high 0 = .ok (.aload_n 0, 1) := by decide +kernel
theorem dX4_high_1 : decode cX4_high 1 = .ok (.getfield 23, 3) := by decide +kernel
theorem dX4_high_4 : decode cX4_high 4 = .ok (.bipush 25, 2) := by decide +kernel
theorem dX4_high_6 : decode cX4_high 6 = .ok (.iload_n 1, 1) := by decide +kernel
theorem dX4_high_7 : decode cX4_high 7 = .ok (.imul, 1) := by decide +kernel
theorem dX4_high_8 : decode cX4_high 8 = .ok (.iload_n 2, 1) := by decide +kernel
theorem dX4_high_9 : decode cX4_high 9 = .ok (.iadd, 1) := by decide +kernel
theorem dX4_high_10 : decode cX4_high 10 = .ok (.iaload, 1) := by decide +kernel
theorem dX4_high_11 : decode cX4_high 11 = .ok (.ireturn, 1) := by decide +kernel
theorem dX4_builderIn_0 : decode cX4_builderIn 0 = .ok (.iconst (-1), 1) := by decide +kernel
theorem dX4_builderIn_1 : decode cX4_builderIn 1 = .ok (.istore_n 3, 1) := by decide +kernel
theorem dX4_builderIn_2 : decode cX4_builderIn 2 = .ok (.iconst 0, 1) := by decide +kernel
theorem dX4_builderIn_3 : decode cX4_builderIn 3 = .ok (.istore 4, 2) := by decide +kernel
theorem dX4_builderIn_5 : decode cX4_builderIn 5 = .ok (.iload 4, 2) := by decide +kernel
theorem dX4_builderIn_7 : decode cX4_builderIn 7 = .ok (.iconst 4, 1) := by decide +kernel
theorem dX4_builderIn_8 : decode cX4_builderIn 8 = .ok (.if_icmp .ge 31, 3) := by decide +kernel
theorem dX4_builderIn_11 : decode cX4_builderIn 11 = .ok (.aload_n 0, 1) := by decide +kernel
theorem dX4_builderIn_12 : decode cX4_builderIn 12 = .ok (.getfield 26, 3) := by decide +kernel
theorem dX4_builderIn_15 : decode cX4_builderIn 15 = .ok (.iconst 4, 1) := by decide +kernel
theorem dX4_builderIn_16 : decode cX4_builderIn 16 = .ok (.iload_n 1, 1) := by decide +kernel
theorem dX4_builderIn_17 : decode cX4_builderIn 17 = .ok (.imul, 1) := by decide +kernel
theorem dX4_builderIn_18 : decode cX4_builderIn 18 = .ok (.iload 4, 2) := by decide +kernel
theorem dX4_builderIn_20 : decode cX4_builderIn 20 = .ok (.iadd, 1) := by decide +kernel
theorem dX4_builderIn_21 : decode cX4_builderIn 21 = .ok (.iaload, 1) := by decide +kernel
theorem dX4_builderIn_22 : decode cX4_builderIn 22 = .ok (.iload_n 2, 1) := by decide +kernel
theorem dX4_builderIn_23 : decode cX4_builderIn 23 = .ok (.if_icmp .ne 8, 3) := by decide +kernel
theorem dX4_builderIn_26 : decode cX4_builderIn 26 = .ok (.iload 4, 2) := by decide +kernel
theorem dX4_builderIn_28 : decode cX4_builderIn 28 = .ok (.goto 4, 3) := by decide +kernel
theorem dX4_builderIn_31 : decode cX4_builderIn 31 = .ok (.iload_n 3, 1) := by decide +kernel
theorem dX4_builderIn_32 : decode cX4_builderIn 32 = .ok (.istore_n 3, 1) := by decide +kernel
theorem dX4_builderIn_33 : decode cX4_builderIn 33 = .ok (.iinc 4 1, 3) := by decide +kernel
theorem dX4_builderIn_36 : decode cX4_builderIn 36 = .ok (.goto (-31), 3) := by decide +kernel
theorem dX4_builderIn_39 : decode cX4_builderIn 39 = .ok (.iload_n 3, 1) := by decide +kernel
theorem dX4_builderIn_40 : decode cX4_builderIn 40 = .ok (.ireturn, 1) := by decide +kernel
set_option maxRecDepth 20000 in
theorem ggX4_areBeside_X4_in : GoodIn wsX4_areBeside wsX4_in := goodIn_r _ [5] (by decide +kernel) (by decide +kernel)
set_option maxRecDepth 20000 in
theorem gX4_areBeside_X4_in : GoodIn wsX4_areBeside (va_wsS RX4 58 yX4_in wsX4_in) := goodIn_app (goodIn_of _ (by decide +kernel)) ggX4_areBeside_X4_in
theorem dX4_areBeside_0 : decode cX4_areBeside 0 = .ok (.iload_n 1, 1) := by decide +kernel
theorem dX4_areBeside_1 : decode cX4_areBeside 1 = .ok (.aload_n 0, 1) := by decide +kernel
theorem dX4_areBeside_2 : decode cX4_areBeside 2 = .ok (.getfield 13, 3) := by decide +kernel
theorem dX4_areBeside_5 : decode cX4_areBeside 5 = .ok (.idiv, 1) := by decide +kernel
theorem dX4_areBeside_6 : decode cX4_areBeside 6 = .ok (.iload_n 2, 1) := by decide +kernel
theorem dX4_areBeside_7 : decode cX4_areBeside 7 = .ok (.aload_n 0, 1) := by decide +kernel
theorem dX4_areBeside_8 : decode cX4_areBeside 8 = .ok (.getfield 13, 3) := by decide +kernel
theorem dX4_areBeside_11 : decode cX4_areBeside 11 = .ok (.idiv, 1) := by decide +kernel
theorem dX4_areBeside_12 : decode cX4_areBeside 12 = .ok (.isub, 1) := by decide +kernel
theorem dX4_areBeside_13 : decode cX4_areBeside 13 = .ok (.istore_n 3, 1) := by decide +kernel
theorem dX4_areBeside_14 : decode cX4_areBeside 14 = .ok (.iload_n 1, 1) := by decide +kernel
theorem dX4_areBeside_15 : decode cX4_areBeside 15 = .ok (.aload_n 0, 1) := by decide +kernel
theorem dX4_areBeside_16 : decode cX4_areBeside 16 = .ok (.getfield 13, 3) := by decide +kernel
theorem dX4_areBeside_19 : decode cX4_areBeside 19 = .ok (.irem, 1) := by decide +kernel
theorem dX4_areBeside_20 : decode cX4_areBeside 20 = .ok (.iload_n 2, 1) := by decide +kernel
theorem dX4_areBeside_21 : decode cX4_areBeside 21 = .ok (.aload_n 0, 1) := by decide +kernel
theorem dX4_areBeside_22 : decode cX4_areBeside 22 = .ok (.getfield 13, 3) := by decide +kernel
theorem dX4_areBeside_25 : decode cX4_areBeside 25 = .ok (.irem, 1) := by decide +kernel
theorem dX4_areBeside_26 : decode cX4_areBeside 26 = .ok (.isub, 1) := by decide +kernel
theorem dX4_areBeside_27 : decode cX4_areBeside 27 = .ok (.istore 4, 2) := by decide +kernel
theorem dX4_areBeside_29 : decode cX4_areBeside 29 = .ok (.iload_n 1, 1) := by decide +kernel
theorem dX4_areBeside_30 : decode cX4_areBeside 30 = .ok (.iload_n 2, 1) := by decide +kernel
theorem dX4_areBeside_31 : decode cX4_areBeside 31 = .ok (.if_icmp .eq 26, 3) := by decide +kernel
theorem dX4_areBeside_34 : decode cX4_areBeside 34 = .ok (.iload_n 3, 1) := by decide +kernel
theorem dX4_areBeside_35 : decode cX4_areBeside 35 = .ok (.iconst (-1), 1) := by decide +kernel
theorem dX4_areBeside_36 : decode cX4_areBeside 36 = .ok (.iconst 1, 1) := by decide +kernel
theorem dX4_areBeside_37 : decode cX4_areBeside 37 = .ok (.invokestatic 58, 3) := by decide +kernel
theorem dX4_areBeside_40 : decode cX4_areBeside 40 = .ok (.ifCond .eq 17, 3) := by decide +kernel
theorem dX4_areBeside_43 : decode cX4_areBeside 43 = .ok (.iload 4, 2) := by decide +kernel
theorem dX4_areBeside_45 : decode cX4_areBeside 45 = .ok (.iconst (-1), 1) := by decide +kernel
theorem dX4_areBeside_46 : decode cX4_areBeside 46 = .ok (.iconst 1, 1) := by decide +kernel
theorem dX4_areBeside_47 : decode cX4_areBeside 47 = .ok (.invokestatic 58, 3) := by decide +kernel
theorem dX4_areBeside_50 : decode cX4_areBeside 50 = .ok (.ifCond .eq 7, 3) := by decide +kernel
theorem dX4_areBeside_53 : decode cX4_areBeside 53 = .ok (.iconst 1, 1) := by decide +kernel
theorem dX4_areBeside_54 : decode cX4_areBeside 54 = .ok (.goto 4, 3) := by decide +kernel
theorem dX4_areBeside_57 : decode cX4_areBeside 57 = .ok (.iconst 0, 1) := by decide +kernel
theorem dX4_areBeside_58 : decode cX4_areBeside 58 = .ok (.ireturn, 1) := by decide +kernel
set_option maxRecDepth 20000 in
theorem ggX4_beyond_X4_in : GoodIn wsX4_beyond wsX4_in := goodIn_r _ [6] (by decide +kernel) (by decide +kernel)
set_option maxRecDepth 20000 in
theorem gX4_beyond_X4_in : GoodIn wsX4_beyond (va_wsS RX4 58 yX4_in wsX4_in) := goodIn_app (goodIn_of _ (by decide +kernel)) ggX4_beyond_X4_in
theorem dX4_beyond_0 : decode cX4_beyond 0 = .ok (.iconst 2, 1) := by decide +kernel
theorem dX4_beyond_1 : decode cX4_beyond 1 = .ok (.iload_n 2, 1) := by decide +kernel
theorem dX4_beyond_2 : decode cX4_beyond 2 = .ok (.aload_n 0, 1) := by decide +kernel
theorem dX4_beyond_3 : decode cX4_beyond 3 = .ok (.getfield 13, 3) := by decide +kernel
theorem dX4_beyond_6 : decode cX4_beyond 6 = .ok (.idiv, 1) := by decide +kernel
theorem dX4_beyond_7 : decode cX4_beyond 7 = .ok (.imul, 1) := by decide +kernel
theorem dX4_beyond_8 : decode cX4_beyond 8 = .ok (.iload_n 1, 1) := by decide +kernel
theorem dX4_beyond_9 : decode cX4_beyond 9 = .ok (.aload_n 0, 1) := by decide +kernel
theorem dX4_beyond_10 : decode cX4_beyond 10 = .ok (.getfield 13, 3) := by decide +kernel
theorem dX4_beyond_13 : decode cX4_beyond 13 = .ok (.idiv, 1) := by decide +kernel
theorem dX4_beyond_14 : decode cX4_beyond 14 = .ok (.isub, 1) := by decide +kernel
theorem dX4_beyond_15 : decode cX4_beyond 15 = .ok (.istore_n 3, 1) := by decide +kernel
theorem dX4_beyond_16 : decode cX4_beyond 16 = .ok (.iconst 2, 1) := by decide +kernel
theorem dX4_beyond_17 : decode cX4_beyond 17 = .ok (.iload_n 2, 1) := by decide +kernel
theorem dX4_beyond_18 : decode cX4_beyond 18 = .ok (.aload_n 0, 1) := by decide +kernel
theorem dX4_beyond_19 : decode cX4_beyond 19 = .ok (.getfield 13, 3) := by decide +kernel
theorem dX4_beyond_22 : decode cX4_beyond 22 = .ok (.irem, 1) := by decide +kernel
theorem dX4_beyond_23 : decode cX4_beyond 23 = .ok (.imul, 1) := by decide +kernel
theorem dX4_beyond_24 : decode cX4_beyond 24 = .ok (.iload_n 1, 1) := by decide +kernel
theorem dX4_beyond_25 : decode cX4_beyond 25 = .ok (.aload_n 0, 1) := by decide +kernel
theorem dX4_beyond_26 : decode cX4_beyond 26 = .ok (.getfield 13, 3) := by decide +kernel
theorem dX4_beyond_29 : decode cX4_beyond 29 = .ok (.irem, 1) := by decide +kernel
theorem dX4_beyond_30 : decode cX4_beyond 30 = .ok (.isub, 1) := by decide +kernel
theorem dX4_beyond_31 : decode cX4_beyond 31 = .ok (.istore 4, 2) := by decide +kernel
theorem dX4_beyond_33 : decode cX4_beyond 33 = .ok (.iload_n 3, 1) := by decide +kernel
theorem dX4_beyond_34 : decode cX4_beyond 34 = .ok (.iconst 0, 1) := by decide +kernel
theorem dX4_beyond_35 : decode cX4_beyond 35 = .ok (.aload_n 0, 1) := by decide +kernel
theorem dX4_beyond_36 : decode cX4_beyond 36 = .ok (.getfield 7, 3) := by decide +kernel
theorem dX4_beyond_39 : decode cX4_beyond 39 = .ok (.iconst 1, 1) := by decide +kernel
theorem dX4_beyond_40 : decode cX4_beyond 40 = .ok (.isub, 1) := by decide +kernel
theorem dX4_beyond_41 : decode cX4_beyond 41 = .ok (.invokestatic 58, 3) := by decide +kernel
theorem dX4_beyond_44 : decode cX4_beyond 44 = .ok (.ifCond .eq 30, 3) := by decide +kernel
theorem dX4_beyond_47 : decode cX4_beyond 47 = .ok (.iload 4, 2) := by decide +kernel
theorem dX4_beyond_49 : decode cX4_beyond 49 = .ok (.iconst 0, 1) := by decide +kernel
theorem dX4_beyond_50 : decode cX4_beyond 50 = .ok (.aload_n 0, 1) := by decide +kernel
theorem dX4_beyond_51 : decode cX4_beyond 51 = .ok (.getfield 13, 3) := by decide +kernel
theorem dX4_beyond_54 : decode cX4_beyond 54 = .ok (.iconst 1, 1) := by decide +kernel
theorem dX4_beyond_55 : decode cX4_beyond 55 = .ok (.isub, 1) := by decide +kernel
theorem dX4_beyond_56 : decode cX4_beyond 56 = .ok (.invokestatic 58, 3) := by decide +kernel
theorem dX4_beyond_59 : decode cX4_beyond 59 = .ok (.ifCond .eq 15, 3) := by decide +kernel
theorem dX4_beyond_62 : decode cX4_beyond 62 = .ok (.iload_n 3, 1) := by decide +kernel
theorem dX4_beyond_63 : decode cX4_beyond 63 = .ok (.aload_n 0, 1) := by decide +kernel
theorem dX4_beyond_64 : decode cX4_beyond 64 = .ok (.getfield 13, 3) := by decide +kernel
theorem dX4_beyond_67 : decode cX4_beyond 67 = .ok (.imul, 1) := by decide +kernel
theorem dX4_beyond_68 : decode cX4_beyond 68 = .ok (.iload 4, 2) := by decide +kernel
theorem dX4_beyond_70 : decode cX4_beyond 70 = .ok (.iadd, 1) := by decide +kernel
theorem dX4_beyond_71 : decode cX4_beyond 71 = .ok (.goto 4, 3) := by decide +kernel
theorem dX4_beyond_74 : decode cX4_beyond 74 = .ok (.iconst (-1), 1) := by decide +kernel
theorem dX4_beyond_75 : decode cX4_beyond 75 = .ok (.ireturn, 1) := by decide +kernel
set_option maxRecDepth 20000 in
theorem ggX4_isStep_X4_high : GoodIn wsX4_isStep wsX4_high := goodIn_r _ [6, 7, 16, 17, 18, 19, 20, 21, 22, 23, 24, 25, 26, 27, 28, 29, 30, 31] (by decide +kernel) (by decide +kernel)
set_option maxRecDepth 20000 in
theorem gX4_isStep_X4_high : GoodIn wsX4_isStep (wsV RX4 72 RX4 yX4_high wsX4_high) := goodIn_app (goodIn_of _ (by decide +kernel)) ggX4_isStep_X4_high
set_option maxRecDepth 20000 in
theorem ggX4_isStep_X4_areBeside : GoodIn wsX4_isStep wsX4_areBeside := goodIn_r _ [11, 12, 13, 14, 5, 15, 16, 17, 18, 19, 20, 21, 22, 23, 24, 25, 26, 27, 28, 29, 30, 31] (by decide +kernel) (by decide +kernel)
set_option maxRecDepth 20000 in
theorem gX4_isStep_X4_areBeside : GoodIn wsX4_isStep (wsV RX4 76 RX4 yX4_areBeside wsX4_areBeside) := goodIn_app (goodIn_of _ (by decide +kernel)) ggX4_isStep_X4_areBeside
theorem dX4_isStep_0 : decode cX4_isStep 0 = .ok (.aload_n 0, 1) := by decide +kernel
theorem dX4_isStep_1 : decode cX4_isStep 1 = .ok (.iload_n 1, 1) := by decide +kernel
theorem dX4_isStep_2 : decode cX4_isStep 2 = .ok (.iload_n 3, 1) := by decide +kernel
theorem dX4_isStep_3 : decode cX4_isStep 3 = .ok (.invokevirtual 72, 3) := by decide +kernel
theorem dX4_isStep_6 : decode cX4_isStep 6 = .ok (.aload_n 0, 1) := by decide +kernel
theorem dX4_isStep_7 : decode cX4_isStep 7 = .ok (.iload_n 1, 1) := by decide +kernel
theorem dX4_isStep_8 : decode cX4_isStep 8 = .ok (.iload_n 2, 1) := by decide +kernel
theorem dX4_isStep_9 : decode cX4_isStep 9 = .ok (.invokevirtual 72, 3) := by decide +kernel
theorem dX4_isStep_12 : decode cX4_isStep 12 = .ok (.isub, 1) := by decide +kernel
theorem dX4_isStep_13 : decode cX4_isStep 13 = .ok (.istore 4, 2) := by decide +kernel
theorem dX4_isStep_15 : decode cX4_isStep 15 = .ok (.aload_n 0, 1) := by decide +kernel
theorem dX4_isStep_16 : decode cX4_isStep 16 = .ok (.iload_n 2, 1) := by decide +kernel
theorem dX4_isStep_17 : decode cX4_isStep 17 = .ok (.iload_n 3, 1) := by decide +kernel
theorem dX4_isStep_18 : decode cX4_isStep 18 = .ok (.invokevirtual 76, 3) := by decide +kernel
theorem dX4_isStep_21 : decode cX4_isStep 21 = .ok (.ifCond .eq 36, 3) := by decide +kernel
theorem dX4_isStep_24 : decode cX4_isStep 24 = .ok (.aload_n 0, 1) := by decide +kernel
theorem dX4_isStep_25 : decode cX4_isStep 25 = .ok (.iload_n 1, 1) := by decide +kernel
theorem dX4_isStep_26 : decode cX4_isStep 26 = .ok (.iload_n 3, 1) := by decide +kernel
theorem dX4_isStep_27 : decode cX4_isStep 27 = .ok (.invokevirtual 72, 3) := by decide +kernel
theorem dX4_isStep_30 : decode cX4_isStep 30 = .ok (.iconst 4, 1) := by decide +kernel
theorem dX4_isStep_31 : decode cX4_isStep 31 = .ok (.if_icmp .ge 26, 3) := by decide +kernel
theorem dX4_isStep_34 : decode cX4_isStep 34 = .ok (.iload 4, 2) := by decide +kernel
theorem dX4_isStep_36 : decode cX4_isStep 36 = .ok (.aload_n 0, 1) := by decide +kernel
theorem dX4_isStep_37 : decode cX4_isStep 37 = .ok (.getfield 32, 3) := by decide +kernel
theorem dX4_isStep_40 : decode cX4_isStep 40 = .ok (.iload_n 1, 1) := by decide +kernel
theorem dX4_isStep_41 : decode cX4_isStep 41 = .ok (.baload, 1) := by decide +kernel
theorem dX4_isStep_42 : decode cX4_isStep 42 = .ok (.ifCond .eq 7, 3) := by decide +kernel
theorem dX4_isStep_45 : decode cX4_isStep 45 = .ok (.iconst 0, 1) := by decide +kernel
theorem dX4_isStep_46 : decode cX4_isStep 46 = .ok (.goto 4, 3) := by decide +kernel
theorem dX4_isStep_49 : decode cX4_isStep 49 = .ok (.iconst 1, 1) := by decide +kernel
theorem dX4_isStep_50 : decode cX4_isStep 50 = .ok (.if_icmp .gt 7, 3) := by decide +kernel
theorem dX4_isStep_53 : decode cX4_isStep 53 = .ok (.iconst 1, 1) := by decide +kernel
theorem dX4_isStep_54 : decode cX4_isStep 54 = .ok (.goto 4, 3) := by decide +kernel
theorem dX4_isStep_57 : decode cX4_isStep 57 = .ok (.iconst 0, 1) := by decide +kernel
theorem dX4_isStep_58 : decode cX4_isStep 58 = .ok (.ireturn, 1) := by decide +kernel
set_option maxRecDepth 20000 in
theorem ggX4_isWinning_X4_high : GoodIn wsX4_isWinning wsX4_high := goodIn_r _ [7, 8, 9, 10, 11, 12, 13, 14, 15, 16, 17, 18, 19, 20, 21, 22, 23, 24] (by decide +kernel) (by decide +kernel)
set_option maxRecDepth 20000 in
theorem gX4_isWinning_X4_high : GoodIn wsX4_isWinning (wsV RX4 72 RX4 yX4_high wsX4_high) := goodIn_app (goodIn_of _ (by decide +kernel)) ggX4_isWinning_X4_high
theorem dX4_isWinning_0 : decode cX4_isWinning 0 = .ok (.aload_n 0, 1) := by decide +kernel
theorem dX4_isWinning_1 : decode cX4_isWinning 1 = .ok (.iload_n 1, 1) := by decide +kernel
theorem dX4_isWinning_2 : decode cX4_isWinning 2 = .ok (.iload_n 2, 1) := by decide +kernel
theorem dX4_isWinning_3 : decode cX4_isWinning 3 = .ok (.invokevirtual 72, 3) := by decide +kernel
theorem dX4_isWinning_6 : decode cX4_isWinning 6 = .ok (.aload_n 0, 1) := by decide +kernel
theorem dX4_isWinning_7 : decode cX4_isWinning 7 = .ok (.iload_n 1, 1) := by decide +kernel
theorem dX4_isWinning_8 : decode cX4_isWinning 8 = .ok (.iload_n 3, 1) := by decide +kernel
theorem dX4_isWinning_9 : decode cX4_isWinning 9 = .ok (.invokevirtual 72, 3) := by decide +kernel
theorem dX4_isWinning_12 : decode cX4_isWinning 12 = .ok (.isub, 1) := by decide +kernel
theorem dX4_isWinning_13 : decode cX4_isWinning 13 = .ok (.istore 4, 2) := by decide +kernel
theorem dX4_isWinning_15 : decode cX4_isWinning 15 = .ok (.aload_n 0, 1) := by decide +kernel
theorem dX4_isWinning_16 : decode cX4_isWinning 16 = .ok (.iload_n 1, 1) := by decide +kernel
theorem dX4_isWinning_17 : decode cX4_isWinning 17 = .ok (.iload_n 3, 1) := by decide +kernel
theorem dX4_isWinning_18 : decode cX4_isWinning 18 = .ok (.invokevirtual 72, 3) := by decide +kernel
theorem dX4_isWinning_21 : decode cX4_isWinning 21 = .ok (.iconst 3, 1) := by decide +kernel
theorem dX4_isWinning_22 : decode cX4_isWinning 22 = .ok (.if_icmp .ne 8, 3) := by decide +kernel
theorem dX4_isWinning_25 : decode cX4_isWinning 25 = .ok (.iload 4, 2) := by decide +kernel
theorem dX4_isWinning_27 : decode cX4_isWinning 27 = .ok (.ifCond .lt 24, 3) := by decide +kernel
theorem dX4_isWinning_30 : decode cX4_isWinning 30 = .ok (.aload_n 0, 1) := by decide +kernel
theorem dX4_isWinning_31 : decode cX4_isWinning 31 = .ok (.getfield 19, 3) := by decide +kernel
theorem dX4_isWinning_34 : decode cX4_isWinning 34 = .ok (.aload_n 0, 1) := by decide +kernel
theorem dX4_isWinning_35 : decode cX4_isWinning 35 = .ok (.getfield 29, 3) := by decide +kernel
theorem dX4_isWinning_38 : decode cX4_isWinning 38 = .ok (.iload_n 1, 1) := by decide +kernel
theorem dX4_isWinning_39 : decode cX4_isWinning 39 = .ok (.iaload, 1) := by decide +kernel
theorem dX4_isWinning_40 : decode cX4_isWinning 40 = .ok (.iaload, 1) := by decide +kernel
theorem dX4_isWinning_41 : decode cX4_isWinning 41 = .ok (.iconst 5, 1) := by decide +kernel
theorem dX4_isWinning_42 : decode cX4_isWinning 42 = .ok (.if_icmp .ne 13, 3) := by decide +kernel
theorem dX4_isWinning_45 : decode cX4_isWinning 45 = .ok (.iload 4, 2) := by decide +kernel
theorem dX4_isWinning_47 : decode cX4_isWinning 47 = .ok (.iconst 2, 1) := by decide +kernel
theorem dX4_isWinning_48 : decode cX4_isWinning 48 = .ok (.if_icmp .lt 7, 3) := by decide +kernel
theorem dX4_isWinning_51 : decode cX4_isWinning 51 = .ok (.iconst 1, 1) := by decide +kernel
theorem dX4_isWinning_52 : decode cX4_isWinning 52 = .ok (.goto 4, 3) := by decide +kernel
theorem dX4_isWinning_55 : decode cX4_isWinning 55 = .ok (.iconst 0, 1) := by decide +kernel
theorem dX4_isWinning_56 : decode cX4_isWinning 56 = .ok (.ireturn, 1) := by decide +kernel
set_option maxRecDepth 20000 in
theorem ggX4_mayEnter_X4_builderIn : GoodIn wsX4_mayEnter wsX4_builderIn := goodIn_r _ [7, 8, 23, 24, 25, 26, 27, 28, 29, 30, 31, 32, 33, 34, 35, 36, 37, 38] (by decide +kernel) (by decide +kernel)
set_option maxRecDepth 20000 in
theorem gX4_mayEnter_X4_builderIn : GoodIn wsX4_mayEnter (wsV RX4 80 RX4 yX4_builderIn wsX4_builderIn) := goodIn_app (goodIn_of _ (by decide +kernel)) ggX4_mayEnter_X4_builderIn
set_option maxRecDepth 20000 in
theorem ggX4_mayEnter_X4_beyond : GoodIn wsX4_mayEnter wsX4_beyond := goodIn_r _ [12, 13, 14, 15, 16, 6, 17, 23, 24, 25, 26, 27, 28, 29, 30, 31, 32, 33, 34, 35, 36, 37, 38] (by decide +kernel) (by decide +kernel)
set_option maxRecDepth 20000 in
theorem gX4_mayEnter_X4_beyond : GoodIn wsX4_mayEnter (wsV RX4 83 RX4 yX4_beyond wsX4_beyond) := goodIn_app (goodIn_of _ (by decide +kernel)) ggX4_mayEnter_X4_beyond
set_option maxRecDepth 20000 in
theorem ggX4_mayEnter_X4_high : GoodIn wsX4_mayEnter wsX4_high := goodIn_r _ [21, 22, 23, 24, 25, 26, 27, 28, 29, 30, 31, 32, 33, 34, 35, 36, 37, 38] (by decide +kernel) (by decide +kernel)
set_option maxRecDepth 20000 in
theorem gX4_mayEnter_X4_high : GoodIn wsX4_mayEnter (wsV RX4 72 RX4 yX4_high wsX4_high) := goodIn_app (goodIn_of _ (by decide +kernel)) ggX4_mayEnter_X4_high
theorem dX4_mayEnter_0 : decode cX4_mayEnter 0 = .ok (.aload_n 0, 1) := by decide +kernel
theorem dX4_mayEnter_1 : decode cX4_mayEnter 1 = .ok (.iload_n 1, 1) := by decide +kernel
theorem dX4_mayEnter_2 : decode cX4_mayEnter 2 = .ok (.iload_n 3, 1) := by decide +kernel
theorem dX4_mayEnter_3 : decode cX4_mayEnter 3 = .ok (.invokevirtual 80, 3) := by decide +kernel
theorem dX4_mayEnter_6 : decode cX4_mayEnter 6 = .ok (.istore 4, 2) := by decide +kernel
theorem dX4_mayEnter_8 : decode cX4_mayEnter 8 = .ok (.aload_n 0, 1) := by decide +kernel
theorem dX4_mayEnter_9 : decode cX4_mayEnter 9 = .ok (.getfield 19, 3) := by decide +kernel
theorem dX4_mayEnter_12 : decode cX4_mayEnter 12 = .ok (.aload_n 0, 1) := by decide +kernel
theorem dX4_mayEnter_13 : decode cX4_mayEnter 13 = .ok (.getfield 29, 3) := by decide +kernel
theorem dX4_mayEnter_16 : decode cX4_mayEnter 16 = .ok (.iload_n 1, 1) := by decide +kernel
theorem dX4_mayEnter_17 : decode cX4_mayEnter 17 = .ok (.iaload, 1) := by decide +kernel
theorem dX4_mayEnter_18 : decode cX4_mayEnter 18 = .ok (.iaload, 1) := by decide +kernel
theorem dX4_mayEnter_19 : decode cX4_mayEnter 19 = .ok (.istore 5, 2) := by decide +kernel
theorem dX4_mayEnter_21 : decode cX4_mayEnter 21 = .ok (.iload 4, 2) := by decide +kernel
theorem dX4_mayEnter_23 : decode cX4_mayEnter 23 = .ok (.iconst (-1), 1) := by decide +kernel
theorem dX4_mayEnter_24 : decode cX4_mayEnter 24 = .ok (.if_icmp .ne 5, 3) := by decide +kernel
theorem dX4_mayEnter_27 : decode cX4_mayEnter 27 = .ok (.iconst 1, 1) := by decide +kernel
theorem dX4_mayEnter_28 : decode cX4_mayEnter 28 = .ok (.ireturn, 1) := by decide +kernel
theorem dX4_mayEnter_29 : decode cX4_mayEnter 29 = .ok (.iload 4, 2) := by decide +kernel
theorem dX4_mayEnter_31 : decode cX4_mayEnter 31 = .ok (.iconst 2, 1) := by decide +kernel
theorem dX4_mayEnter_32 : decode cX4_mayEnter 32 = .ok (.idiv, 1) := by decide +kernel
theorem dX4_mayEnter_33 : decode cX4_mayEnter 33 = .ok (.aload_n 0, 1) := by decide +kernel
theorem dX4_mayEnter_34 : decode cX4_mayEnter 34 = .ok (.getfield 29, 3) := by decide +kernel
theorem dX4_mayEnter_37 : decode cX4_mayEnter 37 = .ok (.iload_n 1, 1) := by decide +kernel
theorem dX4_mayEnter_38 : decode cX4_mayEnter 38 = .ok (.iaload, 1) := by decide +kernel
theorem dX4_mayEnter_39 : decode cX4_mayEnter 39 = .ok (.if_icmp .eq 15, 3) := by decide +kernel
theorem dX4_mayEnter_42 : decode cX4_mayEnter 42 = .ok (.iload 5, 2) := by decide +kernel
theorem dX4_mayEnter_44 : decode cX4_mayEnter 44 = .ok (.iconst 2, 1) := by decide +kernel
theorem dX4_mayEnter_45 : decode cX4_mayEnter 45 = .ok (.if_icmp .eq 11, 3) := by decide +kernel
theorem dX4_mayEnter_48 : decode cX4_mayEnter 48 = .ok (.iload 5, 2) := by decide +kernel
theorem dX4_mayEnter_50 : decode cX4_mayEnter 50 = .ok (.iconst 3, 1) := by decide +kernel
theorem dX4_mayEnter_51 : decode cX4_mayEnter 51 = .ok (.if_icmp .eq 5, 3) := by decide +kernel
theorem dX4_mayEnter_54 : decode cX4_mayEnter 54 = .ok (.iconst 0, 1) := by decide +kernel
theorem dX4_mayEnter_55 : decode cX4_mayEnter 55 = .ok (.ireturn, 1) := by decide +kernel
theorem dX4_mayEnter_56 : decode cX4_mayEnter 56 = .ok (.aload_n 0, 1) := by decide +kernel
theorem dX4_mayEnter_57 : decode cX4_mayEnter 57 = .ok (.iload_n 2, 1) := by decide +kernel
theorem dX4_mayEnter_58 : decode cX4_mayEnter 58 = .ok (.iload_n 3, 1) := by decide +kernel
theorem dX4_mayEnter_59 : decode cX4_mayEnter 59 = .ok (.invokevirtual 83, 3) := by decide +kernel
theorem dX4_mayEnter_62 : decode cX4_mayEnter 62 = .ok (.istore 6, 2) := by decide +kernel
theorem dX4_mayEnter_64 : decode cX4_mayEnter 64 = .ok (.iload 5, 2) := by decide +kernel
theorem dX4_mayEnter_66 : decode cX4_mayEnter 66 = .ok (.iconst 2, 1) := by decide +kernel
theorem dX4_mayEnter_67 : decode cX4_mayEnter 67 = .ok (.if_icmp .eq 31, 3) := by decide +kernel
theorem dX4_mayEnter_70 : decode cX4_mayEnter 70 = .ok (.iload 6, 2) := by decide +kernel
theorem dX4_mayEnter_72 : decode cX4_mayEnter 72 = .ok (.iconst (-1), 1) := by decide +kernel
theorem dX4_mayEnter_73 : decode cX4_mayEnter 73 = .ok (.if_icmp .eq 29, 3) := by decide +kernel
theorem dX4_mayEnter_76 : decode cX4_mayEnter 76 = .ok (.aload_n 0, 1) := by decide +kernel
theorem dX4_mayEnter_77 : decode cX4_mayEnter 77 = .ok (.iload_n 1, 1) := by decide +kernel
theorem dX4_mayEnter_78 : decode cX4_mayEnter 78 = .ok (.iload 6, 2) := by decide +kernel
theorem dX4_mayEnter_80 : decode cX4_mayEnter 80 = .ok (.invokevirtual 80, 3) := by decide +kernel
theorem dX4_mayEnter_83 : decode cX4_mayEnter 83 = .ok (.iconst (-1), 1) := by decide +kernel
theorem dX4_mayEnter_84 : decode cX4_mayEnter 84 = .ok (.if_icmp .ne 18, 3) := by decide +kernel
theorem dX4_mayEnter_87 : decode cX4_mayEnter 87 = .ok (.aload_n 0, 1) := by decide +kernel
theorem dX4_mayEnter_88 : decode cX4_mayEnter 88 = .ok (.iload_n 1, 1) := by decide +kernel
theorem dX4_mayEnter_89 : decode cX4_mayEnter 89 = .ok (.iload 6, 2) := by decide +kernel
theorem dX4_mayEnter_91 : decode cX4_mayEnter 91 = .ok (.invokevirtual 72, 3) := by decide +kernel
theorem dX4_mayEnter_94 : decode cX4_mayEnter 94 = .ok (.iconst 4, 1) := by decide +kernel
theorem dX4_mayEnter_95 : decode cX4_mayEnter 95 = .ok (.if_icmp .ge 7, 3) := by decide +kernel
theorem dX4_mayEnter_98 : decode cX4_mayEnter 98 = .ok (.iconst 1, 1) := by decide +kernel
theorem dX4_mayEnter_99 : decode cX4_mayEnter 99 = .ok (.goto 4, 3) := by decide +kernel
theorem dX4_mayEnter_102 : decode cX4_mayEnter 102 = .ok (.iconst 0, 1) := by decide +kernel
theorem dX4_mayEnter_103 : decode cX4_mayEnter 103 = .ok (.ireturn, 1) := by decide +kernel
set_option maxRecDepth 20000 in
theorem ggX4_canCome_X4_isStep : GoodIn wsX4_canCome wsX4_isStep := goodIn_r _ [8, 9, 10, 11, 12, 7, 13, 14, 15, 16, 17, 18, 19, 20, 21, 22, 44, 45, 46, 47, 48, 49, 50, 51, 52, 53, 54, 55, 56, 57, 58, 59] (by decide +kernel) (by decide +kernel)
set_option maxRecDepth 20000 in
theorem gX4_canCome_X4_isStep : GoodIn wsX4_canCome (wsV RX4 86 RX4 yX4_isStep wsX4_isStep) := goodIn_app (goodIn_of _ (by decide +kernel)) ggX4_canCome_X4_isStep
set_option maxRecDepth 20000 in
theorem ggX4_canCome_X4_mayEnter : GoodIn wsX4_canCome wsX4_mayEnter := goodIn_r _ [26, 3, 2, 27, 28, 29, 7, 30, 1, 31, 32, 33, 34, 19, 35, 20, 21, 22, 10, 11, 12, 13, 14, 44, 45, 46, 47, 48, 49, 50, 51, 52, 53, 54, 55, 56, 57, 58, 59] (by decide +kernel) (by decide +kernel)
set_option maxRecDepth 20000 in
theorem gX4_canCome_X4_mayEnter : GoodIn wsX4_canCome (wsV RX4 89 RX4 yX4_mayEnter wsX4_mayEnter) := goodIn_app (goodIn_of _ (by decide +kernel)) ggX4_canCome_X4_mayEnter
set_option maxRecDepth 20000 in
theorem ggX4_canCome_X4_isWinning : GoodIn wsX4_canCome wsX4_isWinning := goodIn_r _ [39, 3, 2, 10, 11, 12, 7, 13, 14, 44, 45, 46, 47, 48, 49, 50, 51, 52, 53, 54, 55, 56, 57, 58, 59] (by decide +kernel) (by decide +kernel)
set_option maxRecDepth 20000 in
theorem gX4_canCome_X4_isWinning : GoodIn wsX4_canCome (wsV RX4 92 RX4 yX4_isWinning wsX4_isWinning) := goodIn_app (goodIn_of _ (by decide +kernel)) ggX4_canCome_X4_isWinning
set_option maxRecDepth 20000 in
theorem ggX4_canCome_X4_cells : GoodIn wsX4_canCome wsX4_cells := goodIn_r _ [43, 35, 19, 44, 45, 46, 47, 48, 49, 50, 51, 52, 53, 54, 55, 56, 57, 58, 59] (by decide +kernel) (by decide +kernel)
set_option maxRecDepth 20000 in
theorem gX4_canCome_X4_cells : GoodIn wsX4_canCome (wsV RX4 54 RX4 yX4_cells wsX4_cells) := goodIn_app (goodIn_of _ (by decide +kernel)) ggX4_canCome_X4_cells
set_option maxRecDepth 20000 in
theorem ggX4_canCome_X4_builderIn : GoodIn wsX4_canCome wsX4_builderIn := goodIn_r _ [30, 1, 44, 45, 46, 47, 48, 49, 50, 51, 52, 53, 54, 55, 56, 57, 58, 59] (by decide +kernel) (by decide +kernel)
set_option maxRecDepth 20000 in
theorem gX4_canCome_X4_builderIn : GoodIn wsX4_canCome (wsV RX4 80 RX4 yX4_builderIn wsX4_builderIn) := goodIn_app (goodIn_of _ (by decide +kernel)) ggX4_canCome_X4_builderIn
theorem dX4_canCome_0 : decode cX4_canCome 0 = .ok (.aload_n 0, 1) := by decide +kernel
theorem dX4_canCome_1 : decode cX4_canCome 1 = .ok (.getfield 26, 3) := by decide +kernel
theorem dX4_canCome_4 : decode cX4_canCome 4 = .ok (.iconst 4, 1) := by decide +kernel
theorem dX4_canCome_5 : decode cX4_canCome 5 = .ok (.iload_n 1, 1) := by decide +kernel
theorem dX4_canCome_6 : decode cX4_canCome 6 = .ok (.imul, 1) := by decide +kernel
theorem dX4_canCome_7 : decode cX4_canCome 7 = .ok (.iconst 2, 1) := by decide +kernel
theorem dX4_canCome_8 : decode cX4_canCome 8 = .ok (.aload_n 0, 1) := by decide +kernel
theorem dX4_canCome_9 : decode cX4_canCome 9 = .ok (.getfield 29, 3) := by decide +kernel
theorem dX4_canCome_12 : decode cX4_canCome 12 = .ok (.iload_n 1, 1) := by decide +kernel
theorem dX4_canCome_13 : decode cX4_canCome 13 = .ok (.iaload, 1) := by decide +kernel
theorem dX4_canCome_14 : decode cX4_canCome 14 = .ok (.imul, 1) := by decide +kernel
theorem dX4_canCome_15 : decode cX4_canCome 15 = .ok (.iadd, 1) := by decide +kernel
theorem dX4_canCome_16 : decode cX4_canCome 16 = .ok (.iload_n 2, 1) := by decide +kernel
theorem dX4_canCome_17 : decode cX4_canCome 17 = .ok (.iadd, 1) := by decide +kernel
theorem dX4_canCome_18 : decode cX4_canCome 18 = .ok (.iaload, 1) := by decide +kernel
theorem dX4_canCome_19 : decode cX4_canCome 19 = .ok (.istore 5, 2) := by decide +kernel
theorem dX4_canCome_21 : decode cX4_canCome 21 = .ok (.iload 5, 2) := by decide +kernel
theorem dX4_canCome_23 : decode cX4_canCome 23 = .ok (.iload_n 3, 1) := by decide +kernel
theorem dX4_canCome_24 : decode cX4_canCome 24 = .ok (.if_icmp .ne 5, 3) := by decide +kernel
theorem dX4_canCome_27 : decode cX4_canCome 27 = .ok (.iconst 0, 1) := by decide +kernel
theorem dX4_canCome_28 : decode cX4_canCome 28 = .ok (.ireturn, 1) := by decide +kernel
theorem dX4_canCome_29 : decode cX4_canCome 29 = .ok (.aload_n 0, 1) := by decide +kernel
theorem dX4_canCome_30 : decode cX4_canCome 30 = .ok (.iload_n 1, 1) := by decide +kernel
theorem dX4_canCome_31 : decode cX4_canCome 31 = .ok (.iload 5, 2) := by decide +kernel
theorem dX4_canCome_33 : decode cX4_canCome 33 = .ok (.iload_n 3, 1) := by decide +kernel
theorem dX4_canCome_34 : decode cX4_canCome 34 = .ok (.invokevirtual 86, 3) := by decide +kernel
theorem dX4_canCome_37 : decode cX4_canCome 37 = .ok (.ifCond .eq 29, 3) := by decide +kernel
theorem dX4_canCome_40 : decode cX4_canCome 40 = .ok (.aload_n 0, 1) := by decide +kernel
theorem dX4_canCome_41 : decode cX4_canCome 41 = .ok (.iload_n 1, 1) := by decide +kernel
theorem dX4_canCome_42 : decode cX4_canCome 42 = .ok (.iload 5, 2) := by decide +kernel
theorem dX4_canCome_44 : decode cX4_canCome 44 = .ok (.iload_n 3, 1) := by decide +kernel
theorem dX4_canCome_45 : decode cX4_canCome 45 = .ok (.invokevirtual 89, 3) := by decide +kernel
theorem dX4_canCome_48 : decode cX4_canCome 48 = .ok (.ifCond .eq 18, 3) := by decide +kernel
theorem dX4_canCome_51 : decode cX4_canCome 51 = .ok (.aload_n 0, 1) := by decide +kernel
theorem dX4_canCome_52 : decode cX4_canCome 52 = .ok (.iload_n 1, 1) := by decide +kernel
theorem dX4_canCome_53 : decode cX4_canCome 53 = .ok (.iload 5, 2) := by decide +kernel
theorem dX4_canCome_55 : decode cX4_canCome 55 = .ok (.iload_n 3, 1) := by decide +kernel
theorem dX4_canCome_56 : decode cX4_canCome 56 = .ok (.invokevirtual 92, 3) := by decide +kernel
theorem dX4_canCome_59 : decode cX4_canCome 59 = .ok (.iload 4, 2) := by decide +kernel
theorem dX4_canCome_61 : decode cX4_canCome 61 = .ok (.if_icmp .ne 5, 3) := by decide +kernel
theorem dX4_canCome_64 : decode cX4_canCome 64 = .ok (.iconst 1, 1) := by decide +kernel
theorem dX4_canCome_65 : decode cX4_canCome 65 = .ok (.ireturn, 1) := by decide +kernel
theorem dX4_canCome_66 : decode cX4_canCome 66 = .ok (.iconst 0, 1) := by decide +kernel
theorem dX4_canCome_67 : decode cX4_canCome 67 = .ok (.istore 6, 2) := by decide +kernel
theorem dX4_canCome_69 : decode cX4_canCome 69 = .ok (.iconst 0, 1) := by decide +kernel
theorem dX4_canCome_70 : decode cX4_canCome 70 = .ok (.istore 7, 2) := by decide +kernel
theorem dX4_canCome_72 : decode cX4_canCome 72 = .ok (.iload 7, 2) := by decide +kernel
theorem dX4_canCome_74 : decode cX4_canCome 74 = .ok (.aload_n 0, 1) := by decide +kernel
theorem dX4_canCome_75 : decode cX4_canCome 75 = .ok (.invokevirtual 54, 3) := by decide +kernel
theorem dX4_canCome_78 : decode cX4_canCome 78 = .ok (.if_icmp .ge 117, 3) := by decide +kernel
theorem dX4_canCome_81 : decode cX4_canCome 81 = .ok (.aload_n 0, 1) := by decide +kernel
theorem dX4_canCome_82 : decode cX4_canCome 82 = .ok (.getfield 19, 3) := by decide +kernel
theorem dX4_canCome_85 : decode cX4_canCome 85 = .ok (.aload_n 0, 1) := by decide +kernel
theorem dX4_canCome_86 : decode cX4_canCome 86 = .ok (.getfield 29, 3) := by decide +kernel
theorem dX4_canCome_89 : decode cX4_canCome 89 = .ok (.iload_n 1, 1) := by decide +kernel
theorem dX4_canCome_90 : decode cX4_canCome 90 = .ok (.iaload, 1) := by decide +kernel
theorem dX4_canCome_91 : decode cX4_canCome 91 = .ok (.iaload, 1) := by decide +kernel
theorem dX4_canCome_92 : decode cX4_canCome 92 = .ok (.iconst 1, 1) := by decide +kernel
theorem dX4_canCome_93 : decode cX4_canCome 93 = .ok (.if_icmp .ne 102, 3) := by decide +kernel
theorem dX4_canCome_96 : decode cX4_canCome 96 = .ok (.aload_n 0, 1) := by decide +kernel
theorem dX4_canCome_97 : decode cX4_canCome 97 = .ok (.iload_n 1, 1) := by decide +kernel
theorem dX4_canCome_98 : decode cX4_canCome 98 = .ok (.iload 5, 2) := by decide +kernel
theorem dX4_canCome_100 : decode cX4_canCome 100 = .ok (.iload 7, 2) := by decide +kernel
theorem dX4_canCome_102 : decode cX4_canCome 102 = .ok (.invokevirtual 86, 3) := by decide +kernel
theorem dX4_canCome_105 : decode cX4_canCome 105 = .ok (.ifCond .eq 30, 3) := by decide +kernel
theorem dX4_canCome_108 : decode cX4_canCome 108 = .ok (.aload_n 0, 1) := by decide +kernel
theorem dX4_canCome_109 : decode cX4_canCome 109 = .ok (.iload_n 1, 1) := by decide +kernel
theorem dX4_canCome_110 : decode cX4_canCome 110 = .ok (.iload 7, 2) := by decide +kernel
theorem dX4_canCome_112 : decode cX4_canCome 112 = .ok (.invokevirtual 80, 3) := by decide +kernel
theorem dX4_canCome_115 : decode cX4_canCome 115 = .ok (.iconst (-1), 1) := by decide +kernel
theorem dX4_canCome_116 : decode cX4_canCome 116 = .ok (.if_icmp .ne 19, 3) := by decide +kernel
theorem dX4_canCome_119 : decode cX4_canCome 119 = .ok (.aload_n 0, 1) := by decide +kernel
theorem dX4_canCome_120 : decode cX4_canCome 120 = .ok (.iload_n 1, 1) := by decide +kernel
theorem dX4_canCome_121 : decode cX4_canCome 121 = .ok (.iload 5, 2) := by decide +kernel
theorem dX4_canCome_123 : decode cX4_canCome 123 = .ok (.iload 7, 2) := by decide +kernel
theorem dX4_canCome_125 : decode cX4_canCome 125 = .ok (.invokevirtual 92, 3) := by decide +kernel
theorem dX4_canCome_128 : decode cX4_canCome 128 = .ok (.ifCond .ne 7, 3) := by decide +kernel
theorem dX4_canCome_131 : decode cX4_canCome 131 = .ok (.iconst 1, 1) := by decide +kernel
theorem dX4_canCome_132 : decode cX4_canCome 132 = .ok (.goto 4, 3) := by decide +kernel
theorem dX4_canCome_135 : decode cX4_canCome 135 = .ok (.iconst 0, 1) := by decide +kernel
theorem dX4_canCome_136 : decode cX4_canCome 136 = .ok (.istore 8, 2) := by decide +kernel
theorem dX4_canCome_138 : decode cX4_canCome 138 = .ok (.iload 6, 2) := by decide +kernel
theorem dX4_canCome_140 : decode cX4_canCome 140 = .ok (.ifCond .ne 42, 3) := by decide +kernel
theorem dX4_canCome_143 : decode cX4_canCome 143 = .ok (.iload 8, 2) := by decide +kernel
theorem dX4_canCome_145 : decode cX4_canCome 145 = .ok (.ifCond .eq 41, 3) := by decide +kernel
theorem dX4_canCome_148 : decode cX4_canCome 148 = .ok (.aload_n 0, 1) := by decide +kernel
theorem dX4_canCome_149 : decode cX4_canCome 149 = .ok (.iload_n 1, 1) := by decide +kernel
theorem dX4_canCome_150 : decode cX4_canCome 150 = .ok (.iload 7, 2) := by decide +kernel
theorem dX4_canCome_152 : decode cX4_canCome 152 = .ok (.iload_n 3, 1) := by decide +kernel
theorem dX4_canCome_153 : decode cX4_canCome 153 = .ok (.invokevirtual 86, 3) := by decide +kernel
theorem dX4_canCome_156 : decode cX4_canCome 156 = .ok (.ifCond .eq 30, 3) := by decide +kernel
theorem dX4_canCome_159 : decode cX4_canCome 159 = .ok (.aload_n 0, 1) := by decide +kernel
theorem dX4_canCome_160 : decode cX4_canCome 160 = .ok (.iload_n 1, 1) := by decide +kernel
theorem dX4_canCome_161 : decode cX4_canCome 161 = .ok (.iload_n 3, 1) := by decide +kernel
theorem dX4_canCome_162 : decode cX4_canCome 162 = .ok (.invokevirtual 80, 3) := by decide +kernel
theorem dX4_canCome_165 : decode cX4_canCome 165 = .ok (.iconst (-1), 1) := by decide +kernel
theorem dX4_canCome_166 : decode cX4_canCome 166 = .ok (.if_icmp .ne 20, 3) := by decide +kernel
theorem dX4_canCome_169 : decode cX4_canCome 169 = .ok (.aload_n 0, 1) := by decide +kernel
theorem dX4_canCome_170 : decode cX4_canCome 170 = .ok (.iload_n 1, 1) := by decide +kernel
theorem dX4_canCome_171 : decode cX4_canCome 171 = .ok (.iload 7, 2) := by decide +kernel
theorem dX4_canCome_173 : decode cX4_canCome 173 = .ok (.iload_n 3, 1) := by decide +kernel
theorem dX4_canCome_174 : decode cX4_canCome 174 = .ok (.invokevirtual 92, 3) := by decide +kernel
theorem dX4_canCome_177 : decode cX4_canCome 177 = .ok (.iload 4, 2) := by decide +kernel
theorem dX4_canCome_179 : decode cX4_canCome 179 = .ok (.if_icmp .ne 7, 3) := by decide +kernel
theorem dX4_canCome_182 : decode cX4_canCome 182 = .ok (.iconst 1, 1) := by decide +kernel
theorem dX4_canCome_183 : decode cX4_canCome 183 = .ok (.goto 4, 3) := by decide +kernel
theorem dX4_canCome_186 : decode cX4_canCome 186 = .ok (.iconst 0, 1) := by decide +kernel
theorem dX4_canCome_187 : decode cX4_canCome 187 = .ok (.istore 6, 2) := by decide +kernel
theorem dX4_canCome_189 : decode cX4_canCome 189 = .ok (.iinc 7 1, 3) := by decide +kernel
theorem dX4_canCome_192 : decode cX4_canCome 192 = .ok (.goto (-120), 3) := by decide +kernel
theorem dX4_canCome_195 : decode cX4_canCome 195 = .ok (.iload 6, 2) := by decide +kernel
theorem dX4_canCome_197 : decode cX4_canCome 197 = .ok (.ireturn, 1) := by decide +kernel
set_option maxRecDepth 20000 in
theorem ggX4_canBuild_X4_areBeside : GoodIn wsX4_canBuild wsX4_areBeside := goodIn_r _ [7, 8, 9, 10, 6, 11, 27, 28, 29, 30, 31, 32, 33, 34, 35, 36, 37, 38, 39, 40, 41, 42] (by decide +kernel) (by decide +kernel)
set_option maxRecDepth 20000 in
theorem gX4_canBuild_X4_areBeside : GoodIn wsX4_canBuild (wsV RX4 76 RX4 yX4_areBeside wsX4_areBeside) := goodIn_app (goodIn_of _ (by decide +kernel)) ggX4_canBuild_X4_areBeside
set_option maxRecDepth 20000 in
theorem ggX4_canBuild_X4_high : GoodIn wsX4_canBuild wsX4_high := goodIn_r _ [15, 16, 27, 28, 29, 30, 31, 32, 33, 34, 35, 36, 37, 38, 39, 40, 41, 42] (by decide +kernel) (by decide +kernel)
set_option maxRecDepth 20000 in
theorem gX4_canBuild_X4_high : GoodIn wsX4_canBuild (wsV RX4 72 RX4 yX4_high wsX4_high) := goodIn_app (goodIn_of _ (by decide +kernel)) ggX4_canBuild_X4_high
set_option maxRecDepth 20000 in
theorem ggX4_canBuild_X4_builderIn : GoodIn wsX4_canBuild wsX4_builderIn := goodIn_r _ [20, 21, 27, 28, 29, 30, 31, 32, 33, 34, 35, 36, 37, 38, 39, 40, 41, 42] (by decide +kernel) (by decide +kernel)
set_option maxRecDepth 20000 in
theorem gX4_canBuild_X4_builderIn : GoodIn wsX4_canBuild (wsV RX4 80 RX4 yX4_builderIn wsX4_builderIn) := goodIn_app (goodIn_of _ (by decide +kernel)) ggX4_canBuild_X4_builderIn
set_option maxRecDepth 20000 in
theorem ggX4_canBuild_X4_beyond : GoodIn wsX4_canBuild wsX4_beyond := goodIn_r _ [25, 8, 26, 9, 10, 6, 11, 27, 28, 29, 30, 31, 32, 33, 34, 35, 36, 37, 38, 39, 40, 41, 42] (by decide +kernel) (by decide +kernel)
set_option maxRecDepth 20000 in
theorem gX4_canBuild_X4_beyond : GoodIn wsX4_canBuild (wsV RX4 83 RX4 yX4_beyond wsX4_beyond) := goodIn_app (goodIn_of _ (by decide +kernel)) ggX4_canBuild_X4_beyond
theorem dX4_canBuild_0 : decode cX4_canBuild 0 = .ok (.aload_n 0, 1) := by decide +kernel
theorem dX4_canBuild_1 : decode cX4_canBuild 1 = .ok (.getfield 19, 3) := by decide +kernel
theorem dX4_canBuild_4 : decode cX4_canBuild 4 = .ok (.aload_n 0, 1) := by decide +kernel
theorem dX4_canBuild_5 : decode cX4_canBuild 5 = .ok (.getfield 29, 3) := by decide +kernel
theorem dX4_canBuild_8 : decode cX4_canBuild 8 = .ok (.iload_n 1, 1) := by decide +kernel
theorem dX4_canBuild_9 : decode cX4_canBuild 9 = .ok (.iaload, 1) := by decide +kernel
theorem dX4_canBuild_10 : decode cX4_canBuild 10 = .ok (.iaload, 1) := by decide +kernel
theorem dX4_canBuild_11 : decode cX4_canBuild 11 = .ok (.istore 6, 2) := by decide +kernel
theorem dX4_canBuild_13 : decode cX4_canBuild 13 = .ok (.aload_n 0, 1) := by decide +kernel
theorem dX4_canBuild_14 : decode cX4_canBuild 14 = .ok (.iload_n 3, 1) := by decide +kernel
theorem dX4_canBuild_15 : decode cX4_canBuild 15 = .ok (.iload 4, 2) := by decide +kernel
theorem dX4_canBuild_17 : decode cX4_canBuild 17 = .ok (.invokevirtual 76, 3) := by decide +kernel
theorem dX4_canBuild_20 : decode cX4_canBuild 20 = .ok (.ifCond .eq 37, 3) := by decide +kernel
theorem dX4_canBuild_23 : decode cX4_canBuild 23 = .ok (.aload_n 0, 1) := by decide +kernel
theorem dX4_canBuild_24 : decode cX4_canBuild 24 = .ok (.iload_n 1, 1) := by decide +kernel
theorem dX4_canBuild_25 : decode cX4_canBuild 25 = .ok (.iload 4, 2) := by decide +kernel
theorem dX4_canBuild_27 : decode cX4_canBuild 27 = .ok (.invokevirtual 72, 3) := by decide +kernel
theorem dX4_canBuild_30 : decode cX4_canBuild 30 = .ok (.iconst 4, 1) := by decide +kernel
theorem dX4_canBuild_31 : decode cX4_canBuild 31 = .ok (.if_icmp .eq 26, 3) := by decide +kernel
theorem dX4_canBuild_34 : decode cX4_canBuild 34 = .ok (.iload 5, 2) := by decide +kernel
theorem dX4_canBuild_36 : decode cX4_canBuild 36 = .ok (.ifCond .eq 23, 3) := by decide +kernel
theorem dX4_canBuild_39 : decode cX4_canBuild 39 = .ok (.iload 6, 2) := by decide +kernel
theorem dX4_canBuild_41 : decode cX4_canBuild 41 = .ok (.bipush 6, 2) := by decide +kernel
theorem dX4_canBuild_43 : decode cX4_canBuild 43 = .ok (.if_icmp .ne 14, 3) := by decide +kernel
theorem dX4_canBuild_46 : decode cX4_canBuild 46 = .ok (.aload_n 0, 1) := by decide +kernel
theorem dX4_canBuild_47 : decode cX4_canBuild 47 = .ok (.iload_n 1, 1) := by decide +kernel
theorem dX4_canBuild_48 : decode cX4_canBuild 48 = .ok (.iload 4, 2) := by decide +kernel
theorem dX4_canBuild_50 : decode cX4_canBuild 50 = .ok (.invokevirtual 72, 3) := by decide +kernel
theorem dX4_canBuild_53 : decode cX4_canBuild 53 = .ok (.iconst 3, 1) := by decide +kernel
theorem dX4_canBuild_54 : decode cX4_canBuild 54 = .ok (.if_icmp .ne 5, 3) := by decide +kernel
theorem dX4_canBuild_57 : decode cX4_canBuild 57 = .ok (.iconst 0, 1) := by decide +kernel
theorem dX4_canBuild_58 : decode cX4_canBuild 58 = .ok (.ireturn, 1) := by decide +kernel
theorem dX4_canBuild_59 : decode cX4_canBuild 59 = .ok (.aload_n 0, 1) := by decide +kernel
theorem dX4_canBuild_60 : decode cX4_canBuild 60 = .ok (.iload_n 1, 1) := by decide +kernel
theorem dX4_canBuild_61 : decode cX4_canBuild 61 = .ok (.iload_n 3, 1) := by decide +kernel
theorem dX4_canBuild_62 : decode cX4_canBuild 62 = .ok (.invokevirtual 80, 3) := by decide +kernel
theorem dX4_canBuild_65 : decode cX4_canBuild 65 = .ok (.iconst (-1), 1) := by decide +kernel
theorem dX4_canBuild_66 : decode cX4_canBuild 66 = .ok (.if_icmp .eq 7, 3) := by decide +kernel
theorem dX4_canBuild_69 : decode cX4_canBuild 69 = .ok (.iconst 1, 1) := by decide +kernel
theorem dX4_canBuild_70 : decode cX4_canBuild 70 = .ok (.goto 4, 3) := by decide +kernel
theorem dX4_canBuild_73 : decode cX4_canBuild 73 = .ok (.iconst 0, 1) := by decide +kernel
theorem dX4_canBuild_74 : decode cX4_canBuild 74 = .ok (.istore 7, 2) := by decide +kernel
theorem dX4_canBuild_76 : decode cX4_canBuild 76 = .ok (.iload 4, 2) := by decide +kernel
theorem dX4_canBuild_78 : decode cX4_canBuild 78 = .ok (.iload_n 2, 1) := by decide +kernel
theorem dX4_canBuild_79 : decode cX4_canBuild 79 = .ok (.if_icmp .ne 20, 3) := by decide +kernel
theorem dX4_canBuild_82 : decode cX4_canBuild 82 = .ok (.iload 7, 2) := by decide +kernel
theorem dX4_canBuild_84 : decode cX4_canBuild 84 = .ok (.ifCond .eq 9, 3) := by decide +kernel
theorem dX4_canBuild_87 : decode cX4_canBuild 87 = .ok (.iload 6, 2) := by decide +kernel
theorem dX4_canBuild_89 : decode cX4_canBuild 89 = .ok (.iconst 2, 1) := by decide +kernel
theorem dX4_canBuild_90 : decode cX4_canBuild 90 = .ok (.if_icmp .eq 7, 3) := by decide +kernel
theorem dX4_canBuild_93 : decode cX4_canBuild 93 = .ok (.iconst 1, 1) := by decide +kernel
theorem dX4_canBuild_94 : decode cX4_canBuild 94 = .ok (.goto 4, 3) := by decide +kernel
theorem dX4_canBuild_97 : decode cX4_canBuild 97 = .ok (.iconst 0, 1) := by decide +kernel
theorem dX4_canBuild_98 : decode cX4_canBuild 98 = .ok (.ireturn, 1) := by decide +kernel
theorem dX4_canBuild_99 : decode cX4_canBuild 99 = .ok (.aload_n 0, 1) := by decide +kernel
theorem dX4_canBuild_100 : decode cX4_canBuild 100 = .ok (.iload_n 1, 1) := by decide +kernel
theorem dX4_canBuild_101 : decode cX4_canBuild 101 = .ok (.iload 4, 2) := by decide +kernel
theorem dX4_canBuild_103 : decode cX4_canBuild 103 = .ok (.invokevirtual 80, 3) := by decide +kernel
theorem dX4_canBuild_106 : decode cX4_canBuild 106 = .ok (.iconst (-1), 1) := by decide +kernel
theorem dX4_canBuild_107 : decode cX4_canBuild 107 = .ok (.if_icmp .ne 29, 3) := by decide +kernel
theorem dX4_canBuild_110 : decode cX4_canBuild 110 = .ok (.iload 7, 2) := by decide +kernel
theorem dX4_canBuild_112 : decode cX4_canBuild 112 = .ok (.ifCond .eq 20, 3) := by decide +kernel
theorem dX4_canBuild_115 : decode cX4_canBuild 115 = .ok (.iload 6, 2) := by decide +kernel
theorem dX4_canBuild_117 : decode cX4_canBuild 117 = .ok (.iconst 3, 1) := by decide +kernel
theorem dX4_canBuild_118 : decode cX4_canBuild 118 = .ok (.if_icmp .ne 14, 3) := by decide +kernel
theorem dX4_canBuild_121 : decode cX4_canBuild 121 = .ok (.aload_n 0, 1) := by decide +kernel
theorem dX4_canBuild_122 : decode cX4_canBuild 122 = .ok (.iload_n 2, 1) := by decide +kernel
theorem dX4_canBuild_123 : decode cX4_canBuild 123 = .ok (.iload_n 3, 1) := by decide +kernel
theorem dX4_canBuild_124 : decode cX4_canBuild 124 = .ok (.invokevirtual 83, 3) := by decide +kernel
theorem dX4_canBuild_127 : decode cX4_canBuild 127 = .ok (.iload 4, 2) := by decide +kernel
theorem dX4_canBuild_129 : decode cX4_canBuild 129 = .ok (.if_icmp .eq 7, 3) := by decide +kernel
theorem dX4_canBuild_132 : decode cX4_canBuild 132 = .ok (.iconst 1, 1) := by decide +kernel
theorem dX4_canBuild_133 : decode cX4_canBuild 133 = .ok (.goto 4, 3) := by decide +kernel
theorem dX4_canBuild_136 : decode cX4_canBuild 136 = .ok (.iconst 0, 1) := by decide +kernel
theorem dX4_canBuild_137 : decode cX4_canBuild 137 = .ok (.ireturn, 1) := by decide +kernel
set_option maxRecDepth 20000 in
theorem ggX4_isTurn_X4_isCell : GoodIn wsX4_isTurn wsX4_isCell := goodIn_r _ [8, 9, 10, 11, 7, 12, 13, 14, 15, 16, 17, 57, 58, 59, 60, 61, 62, 63, 64, 65, 66, 67, 68, 69, 70, 71, 72] (by decide +kernel) (by decide +kernel)
set_option maxRecDepth 20000 in
theorem gX4_isTurn_X4_isCell : GoodIn wsX4_isTurn (wsV RX4 95 RX4 yX4_isCell wsX4_isCell) := goodIn_app (goodIn_of _ (by decide +kernel)) ggX4_isTurn_X4_isCell
set_option maxRecDepth 20000 in
theorem ggX4_isTurn_X4_canCome : GoodIn wsX4_isTurn wsX4_canCome := goodIn_r _ [21, 2, 3, 22, 23, 24, 25, 7, 26, 27, 28, 29, 30, 31, 32, 33, 34, 35, 36, 14, 15, 16, 17, 37, 38, 39, 40, 41, 42, 43, 44, 45, 46, 47, 48, 13, 49, 50, 51, 52, 9, 10, 11, 12, 57, 58, 59, 60, 61, 62, 63, 64, 65, 66, 67, 68, 69, 70, 71, 72] (by decide +kernel) (by decide +kernel)
set_option maxRecDepth 20000 in
theorem gX4_isTurn_X4_canCome : GoodIn wsX4_isTurn (wsV RX4 98 RX4 yX4_canCome wsX4_canCome) := goodIn_app (goodIn_of _ (by decide +kernel)) ggX4_isTurn_X4_canCome
set_option maxRecDepth 20000 in
theorem ggX4_isTurn_X4_canBuild : GoodIn wsX4_isTurn wsX4_canBuild := goodIn_r _ [56, 22, 3, 33, 34, 35, 7, 36, 14, 15, 16, 17, 28, 29, 30, 31, 32, 41, 42, 43, 44, 2, 45, 46, 47, 48, 13, 57, 58, 59, 60, 61, 62, 63, 64, 65, 66, 67, 68, 69, 70, 71, 72] (by decide +kernel) (by decide +kernel)
set_option maxRecDepth 20000 in
theorem gX4_isTurn_X4_canBuild : GoodIn wsX4_isTurn (wsV RX4 102 RX4 yX4_canBuild wsX4_canBuild) := goodIn_app (goodIn_of _ (by decide +kernel)) ggX4_isTurn_X4_canBuild
theorem dX4_isTurn_0 : decode cX4_isTurn 0 = .ok (.iload_n 2, 1) := by decide +kernel
theorem dX4_isTurn_1 : decode cX4_isTurn 1 = .ok (.sipush 10000, 3) := by decide +kernel
theorem dX4_isTurn_4 : decode cX4_isTurn 4 = .ok (.idiv, 1) := by decide +kernel
theorem dX4_isTurn_5 : decode cX4_isTurn 5 = .ok (.istore_n 3, 1) := by decide +kernel
theorem dX4_isTurn_6 : decode cX4_isTurn 6 = .ok (.iload_n 2, 1) := by decide +kernel
theorem dX4_isTurn_7 : decode cX4_isTurn 7 = .ok (.bipush 100, 2) := by decide +kernel
theorem dX4_isTurn_9 : decode cX4_isTurn 9 = .ok (.idiv, 1) := by decide +kernel
theorem dX4_isTurn_10 : decode cX4_isTurn 10 = .ok (.bipush 100, 2) := by decide +kernel
theorem dX4_isTurn_12 : decode cX4_isTurn 12 = .ok (.irem, 1) := by decide +kernel
theorem dX4_isTurn_13 : decode cX4_isTurn 13 = .ok (.istore 4, 2) := by decide +kernel
theorem dX4_isTurn_15 : decode cX4_isTurn 15 = .ok (.iload_n 2, 1) := by decide +kernel
theorem dX4_isTurn_16 : decode cX4_isTurn 16 = .ok (.bipush 100, 2) := by decide +kernel
theorem dX4_isTurn_18 : decode cX4_isTurn 18 = .ok (.irem, 1) := by decide +kernel
theorem dX4_isTurn_19 : decode cX4_isTurn 19 = .ok (.istore 5, 2) := by decide +kernel
theorem dX4_isTurn_21 : decode cX4_isTurn 21 = .ok (.iload_n 2, 1) := by decide +kernel
theorem dX4_isTurn_22 : decode cX4_isTurn 22 = .ok (.ifCond .lt 20, 3) := by decide +kernel
theorem dX4_isTurn_25 : decode cX4_isTurn 25 = .ok (.iload_n 3, 1) := by decide +kernel
theorem dX4_isTurn_26 : decode cX4_isTurn 26 = .ok (.aload_n 0, 1) := by decide +kernel
theorem dX4_isTurn_27 : decode cX4_isTurn 27 = .ok (.getfield 16, 3) := by decide +kernel
theorem dX4_isTurn_30 : decode cX4_isTurn 30 = .ok (.if_icmp .ge 12, 3) := by decide +kernel
theorem dX4_isTurn_33 : decode cX4_isTurn 33 = .ok (.aload_n 0, 1) := by decide +kernel
theorem dX4_isTurn_34 : decode cX4_isTurn 34 = .ok (.iload 4, 2) := by decide +kernel
theorem dX4_isTurn_36 : decode cX4_isTurn 36 = .ok (.invokevirtual 95, 3) := by decide +kernel
theorem dX4_isTurn_39 : decode cX4_isTurn 39 = .ok (.ifCond .ne 5, 3) := by decide +kernel
theorem dX4_isTurn_42 : decode cX4_isTurn 42 = .ok (.iconst 0, 1) := by decide +kernel
theorem dX4_isTurn_43 : decode cX4_isTurn 43 = .ok (.ireturn, 1) := by decide +kernel
theorem dX4_isTurn_44 : decode cX4_isTurn 44 = .ok (.iload 5, 2) := by decide +kernel
theorem dX4_isTurn_46 : decode cX4_isTurn 46 = .ok (.bipush 99, 2) := by decide +kernel
theorem dX4_isTurn_48 : decode cX4_isTurn 48 = .ok (.if_icmp .ne 13, 3) := by decide +kernel
theorem dX4_isTurn_51 : decode cX4_isTurn 51 = .ok (.aload_n 0, 1) := by decide +kernel
theorem dX4_isTurn_52 : decode cX4_isTurn 52 = .ok (.iload_n 1, 1) := by decide +kernel
theorem dX4_isTurn_53 : decode cX4_isTurn 53 = .ok (.iload_n 3, 1) := by decide +kernel
theorem dX4_isTurn_54 : decode cX4_isTurn 54 = .ok (.iload 4, 2) := by decide +kernel
theorem dX4_isTurn_56 : decode cX4_isTurn 56 = .ok (.iconst 1, 1) := by decide +kernel
theorem dX4_isTurn_57 : decode cX4_isTurn 57 = .ok (.invokevirtual 98, 3) := by decide +kernel
theorem dX4_isTurn_60 : decode cX4_isTurn 60 = .ok (.ireturn, 1) := by decide +kernel
theorem dX4_isTurn_61 : decode cX4_isTurn 61 = .ok (.iload 5, 2) := by decide +kernel
theorem dX4_isTurn_63 : decode cX4_isTurn 63 = .ok (.bipush 50, 2) := by decide +kernel
theorem dX4_isTurn_65 : decode cX4_isTurn 65 = .ok (.if_icmp .lt 7, 3) := by decide +kernel
theorem dX4_isTurn_68 : decode cX4_isTurn 68 = .ok (.iconst 1, 1) := by decide +kernel
theorem dX4_isTurn_69 : decode cX4_isTurn 69 = .ok (.goto 4, 3) := by decide +kernel
theorem dX4_isTurn_72 : decode cX4_isTurn 72 = .ok (.iconst 0, 1) := by decide +kernel
theorem dX4_isTurn_73 : decode cX4_isTurn 73 = .ok (.istore 6, 2) := by decide +kernel
theorem dX4_isTurn_75 : decode cX4_isTurn 75 = .ok (.iload 6, 2) := by decide +kernel
theorem dX4_isTurn_77 : decode cX4_isTurn 77 = .ok (.ifCond .eq 11, 3) := by decide +kernel
theorem dX4_isTurn_80 : decode cX4_isTurn 80 = .ok (.iload 5, 2) := by decide +kernel
theorem dX4_isTurn_82 : decode cX4_isTurn 82 = .ok (.bipush 50, 2) := by decide +kernel
theorem dX4_isTurn_84 : decode cX4_isTurn 84 = .ok (.isub, 1) := by decide +kernel
theorem dX4_isTurn_85 : decode cX4_isTurn 85 = .ok (.goto 5, 3) := by decide +kernel
theorem dX4_isTurn_88 : decode cX4_isTurn 88 = .ok (.iload 5, 2) := by decide +kernel
theorem dX4_isTurn_90 : decode cX4_isTurn 90 = .ok (.istore 7, 2) := by decide +kernel
theorem dX4_isTurn_92 : decode cX4_isTurn 92 = .ok (.aload_n 0, 1) := by decide +kernel
theorem dX4_isTurn_93 : decode cX4_isTurn 93 = .ok (.getfield 26, 3) := by decide +kernel
theorem dX4_isTurn_96 : decode cX4_isTurn 96 = .ok (.iconst 4, 1) := by decide +kernel
theorem dX4_isTurn_97 : decode cX4_isTurn 97 = .ok (.iload_n 1, 1) := by decide +kernel
theorem dX4_isTurn_98 : decode cX4_isTurn 98 = .ok (.imul, 1) := by decide +kernel
theorem dX4_isTurn_99 : decode cX4_isTurn 99 = .ok (.iconst 2, 1) := by decide +kernel
theorem dX4_isTurn_100 : decode cX4_isTurn 100 = .ok (.aload_n 0, 1) := by decide +kernel
theorem dX4_isTurn_101 : decode cX4_isTurn 101 = .ok (.getfield 29, 3) := by decide +kernel
theorem dX4_isTurn_104 : decode cX4_isTurn 104 = .ok (.iload_n 1, 1) := by decide +kernel
theorem dX4_isTurn_105 : decode cX4_isTurn 105 = .ok (.iaload, 1) := by decide +kernel
theorem dX4_isTurn_106 : decode cX4_isTurn 106 = .ok (.imul, 1) := by decide +kernel
theorem dX4_isTurn_107 : decode cX4_isTurn 107 = .ok (.iadd, 1) := by decide +kernel
theorem dX4_isTurn_108 : decode cX4_isTurn 108 = .ok (.iload_n 3, 1) := by decide +kernel
theorem dX4_isTurn_109 : decode cX4_isTurn 109 = .ok (.iadd, 1) := by decide +kernel
theorem dX4_isTurn_110 : decode cX4_isTurn 110 = .ok (.iaload, 1) := by decide +kernel
theorem dX4_isTurn_111 : decode cX4_isTurn 111 = .ok (.istore 8, 2) := by decide +kernel
theorem dX4_isTurn_113 : decode cX4_isTurn 113 = .ok (.aload_n 0, 1) := by decide +kernel
theorem dX4_isTurn_114 : decode cX4_isTurn 114 = .ok (.iload 7, 2) := by decide +kernel
theorem dX4_isTurn_116 : decode cX4_isTurn 116 = .ok (.invokevirtual 95, 3) := by decide +kernel
theorem dX4_isTurn_119 : decode cX4_isTurn 119 = .ok (.ifCond .eq 35, 3) := by decide +kernel
theorem dX4_isTurn_122 : decode cX4_isTurn 122 = .ok (.aload_n 0, 1) := by decide +kernel
theorem dX4_isTurn_123 : decode cX4_isTurn 123 = .ok (.iload_n 1, 1) := by decide +kernel
theorem dX4_isTurn_124 : decode cX4_isTurn 124 = .ok (.iload 8, 2) := by decide +kernel
theorem dX4_isTurn_126 : decode cX4_isTurn 126 = .ok (.iload 4, 2) := by decide +kernel
theorem dX4_isTurn_128 : decode cX4_isTurn 128 = .ok (.iload 7, 2) := by decide +kernel
theorem dX4_isTurn_130 : decode cX4_isTurn 130 = .ok (.iload 6, 2) := by decide +kernel
theorem dX4_isTurn_132 : decode cX4_isTurn 132 = .ok (.invokevirtual 102, 3) := by decide +kernel
theorem dX4_isTurn_135 : decode cX4_isTurn 135 = .ok (.ifCond .eq 19, 3) := by decide +kernel
theorem dX4_isTurn_138 : decode cX4_isTurn 138 = .ok (.aload_n 0, 1) := by decide +kernel
theorem dX4_isTurn_139 : decode cX4_isTurn 139 = .ok (.iload_n 1, 1) := by decide +kernel
theorem dX4_isTurn_140 : decode cX4_isTurn 140 = .ok (.iload_n 3, 1) := by decide +kernel
theorem dX4_isTurn_141 : decode cX4_isTurn 141 = .ok (.iload 4, 2) := by decide +kernel
theorem dX4_isTurn_143 : decode cX4_isTurn 143 = .ok (.iconst 0, 1) := by decide +kernel
theorem dX4_isTurn_144 : decode cX4_isTurn 144 = .ok (.invokevirtual 98, 3) := by decide +kernel
theorem dX4_isTurn_147 : decode cX4_isTurn 147 = .ok (.ifCond .eq 7, 3) := by decide +kernel
theorem dX4_isTurn_150 : decode cX4_isTurn 150 = .ok (.iconst 1, 1) := by decide +kernel
theorem dX4_isTurn_151 : decode cX4_isTurn 151 = .ok (.goto 4, 3) := by decide +kernel
theorem dX4_isTurn_154 : decode cX4_isTurn 154 = .ok (.iconst 0, 1) := by decide +kernel
theorem dX4_isTurn_155 : decode cX4_isTurn 155 = .ok (.ireturn, 1) := by decide +kernel
set_option maxRecDepth 20000 in
theorem ggX4_nextTurn_X4_cells : GoodIn wsX4_nextTurn wsX4_cells := goodIn_r _ [6, 7, 8, 61, 62, 63, 64, 65, 66, 67, 68, 69, 70, 71, 72, 73, 74, 75, 76] (by decide +kernel) (by decide +kernel)
set_option maxRecDepth 20000 in
theorem gX4_nextTurn_X4_cells : GoodIn wsX4_nextTurn (wsV RX4 54 RX4 yX4_cells wsX4_cells) := goodIn_app (goodIn_of _ (by decide +kernel)) ggX4_nextTurn_X4_cells
set_option maxRecDepth 20000 in
theorem ggX4_nextTurn_X4_canCome : GoodIn wsX4_nextTurn wsX4_canCome := goodIn_r _ [12, 13, 14, 15, 16, 17, 18, 5, 19, 20, 21, 22, 23, 24, 25, 26, 27, 28, 29, 8, 30, 31, 32, 33, 34, 35, 36, 37, 38, 39, 40, 41, 42, 43, 44, 7, 45, 46, 47, 48, 2, 3, 4, 6, 61, 62, 63, 64, 65, 66, 67, 68, 69, 70, 71, 72, 73, 74, 75, 76] (by decide +kernel) (by decide +kernel)
set_option maxRecDepth 20000 in
theorem gX4_nextTurn_X4_canCome : GoodIn wsX4_nextTurn (wsV RX4 98 RX4 yX4_canCome wsX4_canCome) := goodIn_app (goodIn_of _ (by decide +kernel)) ggX4_nextTurn_X4_canCome
set_option maxRecDepth 20000 in
theorem ggX4_nextTurn_X4_isTurn : GoodIn wsX4_nextTurn wsX4_isTurn := goodIn_r _ [52, 1, 13, 14, 53, 54, 55, 5, 56, 2, 3, 4, 6, 7, 8, 30, 31, 32, 9, 10, 11, 12, 15, 16, 17, 18, 19, 20, 21, 22, 23, 24, 25, 26, 27, 28, 29, 33, 34, 35, 36, 37, 38, 39, 40, 41, 42, 43, 44, 45, 46, 47, 48, 57, 58, 59, 60, 61, 62, 63, 64, 65, 66, 67, 68, 69, 70, 71, 72, 73, 74, 75, 76] (by decide +kernel) (by decide +kernel)
set_option maxRecDepth 20000 in
theorem gX4_nextTurn_X4_isTurn : GoodIn wsX4_nextTurn (wsV RX4 106 RX4 yX4_isTurn wsX4_isTurn) := goodIn_app (goodIn_of _ (by decide +kernel)) ggX4_nextTurn_X4_isTurn
theorem dX4_nextTurn_0 : decode cX4_nextTurn 0 = .ok (.iload_n 2, 1) := by decide +kernel
theorem dX4_nextTurn_1 : decode cX4_nextTurn 1 = .ok (.iconst 1, 1) := by decide +kernel
theorem dX4_nextTurn_2 : decode cX4_nextTurn 2 = .ok (.iadd, 1) := by decide +kernel
theorem dX4_nextTurn_3 : decode cX4_nextTurn 3 = .ok (.istore_n 3, 1) := by decide +kernel
theorem dX4_nextTurn_4 : decode cX4_nextTurn 4 = .ok (.iload_n 3, 1) := by decide +kernel
theorem dX4_nextTurn_5 : decode cX4_nextTurn 5 = .ok (.sipush 10000, 3) := by decide +kernel
theorem dX4_nextTurn_8 : decode cX4_nextTurn 8 = .ok (.aload_n 0, 1) := by decide +kernel
theorem dX4_nextTurn_9 : decode cX4_nextTurn 9 = .ok (.getfield 16, 3) := by decide +kernel
theorem dX4_nextTurn_12 : decode cX4_nextTurn 12 = .ok (.imul, 1) := by decide +kernel
theorem dX4_nextTurn_13 : decode cX4_nextTurn 13 = .ok (.if_icmp .ge 98, 3) := by decide +kernel
theorem dX4_nextTurn_16 : decode cX4_nextTurn 16 = .ok (.iload_n 3, 1) := by decide +kernel
theorem dX4_nextTurn_17 : decode cX4_nextTurn 17 = .ok (.bipush 100, 2) := by decide +kernel
theorem dX4_nextTurn_19 : decode cX4_nextTurn 19 = .ok (.idiv, 1) := by decide +kernel
theorem dX4_nextTurn_20 : decode cX4_nextTurn 20 = .ok (.bipush 100, 2) := by decide +kernel
theorem dX4_nextTurn_22 : decode cX4_nextTurn 22 = .ok (.irem, 1) := by decide +kernel
theorem dX4_nextTurn_23 : decode cX4_nextTurn 23 = .ok (.istore 4, 2) := by decide +kernel
theorem dX4_nextTurn_25 : decode cX4_nextTurn 25 = .ok (.iload 4, 2) := by decide +kernel
theorem dX4_nextTurn_27 : decode cX4_nextTurn 27 = .ok (.aload_n 0, 1) := by decide +kernel
theorem dX4_nextTurn_28 : decode cX4_nextTurn 28 = .ok (.invokevirtual 54, 3) := by decide +kernel
theorem dX4_nextTurn_31 : decode cX4_nextTurn 31 = .ok (.if_icmp .lt 18, 3) := by decide +kernel
theorem dX4_nextTurn_34 : decode cX4_nextTurn 34 = .ok (.iload_n 3, 1) := by decide +kernel
theorem dX4_nextTurn_35 : decode cX4_nextTurn 35 = .ok (.sipush 10000, 3) := by decide +kernel
theorem dX4_nextTurn_38 : decode cX4_nextTurn 38 = .ok (.idiv, 1) := by decide +kernel
theorem dX4_nextTurn_39 : decode cX4_nextTurn 39 = .ok (.iconst 1, 1) := by decide +kernel
theorem dX4_nextTurn_40 : decode cX4_nextTurn 40 = .ok (.iadd, 1) := by decide +kernel
theorem dX4_nextTurn_41 : decode cX4_nextTurn 41 = .ok (.sipush 10000, 3) := by decide +kernel
theorem dX4_nextTurn_44 : decode cX4_nextTurn 44 = .ok (.imul, 1) := by decide +kernel
theorem dX4_nextTurn_45 : decode cX4_nextTurn 45 = .ok (.istore_n 3, 1) := by decide +kernel
theorem dX4_nextTurn_46 : decode cX4_nextTurn 46 = .ok (.goto 62, 3) := by decide +kernel
theorem dX4_nextTurn_49 : decode cX4_nextTurn 49 = .ok (.iload_n 3, 1) := by decide +kernel
theorem dX4_nextTurn_50 : decode cX4_nextTurn 50 = .ok (.bipush 100, 2) := by decide +kernel
theorem dX4_nextTurn_52 : decode cX4_nextTurn 52 = .ok (.irem, 1) := by decide +kernel
theorem dX4_nextTurn_53 : decode cX4_nextTurn 53 = .ok (.ifCond .ne 41, 3) := by decide +kernel
theorem dX4_nextTurn_56 : decode cX4_nextTurn 56 = .ok (.aload_n 0, 1) := by decide +kernel
theorem dX4_nextTurn_57 : decode cX4_nextTurn 57 = .ok (.iload_n 1, 1) := by decide +kernel
theorem dX4_nextTurn_58 : decode cX4_nextTurn 58 = .ok (.iload_n 3, 1) := by decide +kernel
theorem dX4_nextTurn_59 : decode cX4_nextTurn 59 = .ok (.sipush 10000, 3) := by decide +kernel
theorem dX4_nextTurn_62 : decode cX4_nextTurn 62 = .ok (.idiv, 1) := by decide +kernel
theorem dX4_nextTurn_63 : decode cX4_nextTurn 63 = .ok (.iload 4, 2) := by decide +kernel
theorem dX4_nextTurn_65 : decode cX4_nextTurn 65 = .ok (.iconst 1, 1) := by decide +kernel
theorem dX4_nextTurn_66 : decode cX4_nextTurn 66 = .ok (.invokevirtual 98, 3) := by decide +kernel
theorem dX4_nextTurn_69 : decode cX4_nextTurn 69 = .ok (.ifCond .ne 25, 3) := by decide +kernel
theorem dX4_nextTurn_72 : decode cX4_nextTurn 72 = .ok (.aload_n 0, 1) := by decide +kernel
theorem dX4_nextTurn_73 : decode cX4_nextTurn 73 = .ok (.iload_n 1, 1) := by decide +kernel
theorem dX4_nextTurn_74 : decode cX4_nextTurn 74 = .ok (.iload_n 3, 1) := by decide +kernel
theorem dX4_nextTurn_75 : decode cX4_nextTurn 75 = .ok (.sipush 10000, 3) := by decide +kernel
theorem dX4_nextTurn_78 : decode cX4_nextTurn 78 = .ok (.idiv, 1) := by decide +kernel
theorem dX4_nextTurn_79 : decode cX4_nextTurn 79 = .ok (.iload 4, 2) := by decide +kernel
theorem dX4_nextTurn_81 : decode cX4_nextTurn 81 = .ok (.iconst 0, 1) := by decide +kernel
theorem dX4_nextTurn_82 : decode cX4_nextTurn 82 = .ok (.invokevirtual 98, 3) := by decide +kernel
theorem dX4_nextTurn_85 : decode cX4_nextTurn 85 = .ok (.ifCond .ne 9, 3) := by decide +kernel
theorem dX4_nextTurn_88 : decode cX4_nextTurn 88 = .ok (.iinc 3 100, 3) := by decide +kernel
theorem dX4_nextTurn_91 : decode cX4_nextTurn 91 = .ok (.goto 17, 3) := by decide +kernel
theorem dX4_nextTurn_94 : decode cX4_nextTurn 94 = .ok (.aload_n 0, 1) := by decide +kernel
theorem dX4_nextTurn_95 : decode cX4_nextTurn 95 = .ok (.iload_n 1, 1) := by decide +kernel
theorem dX4_nextTurn_96 : decode cX4_nextTurn 96 = .ok (.iload_n 3, 1) := by decide +kernel
theorem dX4_nextTurn_97 : decode cX4_nextTurn 97 = .ok (.invokevirtual 106, 3) := by decide +kernel
theorem dX4_nextTurn_100 : decode cX4_nextTurn 100 = .ok (.ifCond .eq 5, 3) := by decide +kernel
theorem dX4_nextTurn_103 : decode cX4_nextTurn 103 = .ok (.iload_n 3, 1) := by decide +kernel
theorem dX4_nextTurn_104 : decode cX4_nextTurn 104 = .ok (.ireturn, 1) := by decide +kernel
theorem dX4_nextTurn_105 : decode cX4_nextTurn 105 = .ok (.iinc 3 1, 3) := by decide +kernel
theorem dX4_nextTurn_108 : decode cX4_nextTurn 108 = .ok (.goto (-104), 3) := by decide +kernel
theorem dX4_nextTurn_111 : decode cX4_nextTurn 111 = .ok (.iconst (-1), 1) := by decide +kernel
theorem dX4_nextTurn_112 : decode cX4_nextTurn 112 = .ok (.ireturn, 1) := by decide +kernel
theorem dX4_copy_0 : decode cX4_copy 0 = .ok (.iconst 0, 1) := by decide +kernel
theorem dX4_copy_1 : decode cX4_copy 1 = .ok (.istore_n 3, 1) := by decide +kernel
theorem dX4_copy_2 : decode cX4_copy 2 = .ok (.iload_n 3, 1) := by decide +kernel
theorem dX4_copy_3 : decode cX4_copy 3 = .ok (.bipush 25, 2) := by decide +kernel
theorem dX4_copy_5 : decode cX4_copy 5 = .ok (.if_icmp .ge 31, 3) := by decide +kernel
theorem dX4_copy_8 : decode cX4_copy 8 = .ok (.aload_n 0, 1) := by decide +kernel
theorem dX4_copy_9 : decode cX4_copy 9 = .ok (.getfield 23, 3) := by decide +kernel
theorem dX4_copy_12 : decode cX4_copy 12 = .ok (.bipush 25, 2) := by decide +kernel
theorem dX4_copy_14 : decode cX4_copy 14 = .ok (.iload_n 2, 1) := by decide +kernel
theorem dX4_copy_15 : decode cX4_copy 15 = .ok (.imul, 1) := by decide +kernel
theorem dX4_copy_16 : decode cX4_copy 16 = .ok (.iload_n 3, 1) := by decide +kernel
theorem dX4_copy_17 : decode cX4_copy 17 = .ok (.iadd, 1) := by decide +kernel
theorem dX4_copy_18 : decode cX4_copy 18 = .ok (.aload_n 0, 1) := by decide +kernel
theorem dX4_copy_19 : decode cX4_copy 19 = .ok (.getfield 23, 3) := by decide +kernel
theorem dX4_copy_22 : decode cX4_copy 22 = .ok (.bipush 25, 2) := by decide +kernel
theorem dX4_copy_24 : decode cX4_copy 24 = .ok (.iload_n 1, 1) := by decide +kernel
theorem dX4_copy_25 : decode cX4_copy 25 = .ok (.imul, 1) := by decide +kernel
theorem dX4_copy_26 : decode cX4_copy 26 = .ok (.iload_n 3, 1) := by decide +kernel
theorem dX4_copy_27 : decode cX4_copy 27 = .ok (.iadd, 1) := by decide +kernel
theorem dX4_copy_28 : decode cX4_copy 28 = .ok (.iaload, 1) := by decide +kernel
theorem dX4_copy_29 : decode cX4_copy 29 = .ok (.iastore, 1) := by decide +kernel
theorem dX4_copy_30 : decode cX4_copy 30 = .ok (.iinc 3 1, 3) := by decide +kernel
theorem dX4_copy_33 : decode cX4_copy 33 = .ok (.goto (-31), 3) := by decide +kernel
theorem dX4_copy_36 : decode cX4_copy 36 = .ok (.iconst 0, 1) := by decide +kernel
theorem dX4_copy_37 : decode cX4_copy 37 = .ok (.istore_n 3, 1) := by decide +kernel
theorem dX4_copy_38 : decode cX4_copy 38 = .ok (.iload_n 3, 1) := by decide +kernel
theorem dX4_copy_39 : decode cX4_copy 39 = .ok (.iconst 4, 1) := by decide +kernel
theorem dX4_copy_40 : decode cX4_copy 40 = .ok (.if_icmp .ge 29, 3) := by decide +kernel
theorem dX4_copy_43 : decode cX4_copy 43 = .ok (.aload_n 0, 1) := by decide +kernel
theorem dX4_copy_44 : decode cX4_copy 44 = .ok (.getfield 26, 3) := by decide +kernel
theorem dX4_copy_47 : decode cX4_copy 47 = .ok (.iconst 4, 1) := by decide +kernel
theorem dX4_copy_48 : decode cX4_copy 48 = .ok (.iload_n 2, 1) := by decide +kernel
theorem dX4_copy_49 : decode cX4_copy 49 = .ok (.imul, 1) := by decide +kernel
theorem dX4_copy_50 : decode cX4_copy 50 = .ok (.iload_n 3, 1) := by decide +kernel
theorem dX4_copy_51 : decode cX4_copy 51 = .ok (.iadd, 1) := by decide +kernel
theorem dX4_copy_52 : decode cX4_copy 52 = .ok (.aload_n 0, 1) := by decide +kernel
theorem dX4_copy_53 : decode cX4_copy 53 = .ok (.getfield 26, 3) := by decide +kernel
theorem dX4_copy_56 : decode cX4_copy 56 = .ok (.iconst 4, 1) := by decide +kernel
theorem dX4_copy_57 : decode cX4_copy 57 = .ok (.iload_n 1, 1) := by decide +kernel
theorem dX4_copy_58 : decode cX4_copy 58 = .ok (.imul, 1) := by decide +kernel
theorem dX4_copy_59 : decode cX4_copy 59 = .ok (.iload_n 3, 1) := by decide +kernel
theorem dX4_copy_60 : decode cX4_copy 60 = .ok (.iadd, 1) := by decide +kernel
theorem dX4_copy_61 : decode cX4_copy 61 = .ok (.iaload, 1) := by decide +kernel
theorem dX4_copy_62 : decode cX4_copy 62 = .ok (.iastore, 1) := by decide +kernel
theorem dX4_copy_63 : decode cX4_copy 63 = .ok (.iinc 3 1, 3) := by decide +kernel
theorem dX4_copy_66 : decode cX4_copy 66 = .ok (.goto (-28), 3) := by decide +kernel
theorem dX4_copy_69 : decode cX4_copy 69 = .ok (.aload_n 0, 1) := by decide +kernel
theorem dX4_copy_70 : decode cX4_copy 70 = .ok (.getfield 29, 3) := by decide +kernel
theorem dX4_copy_73 : decode cX4_copy 73 = .ok (.iload_n 2, 1) := by decide +kernel
theorem dX4_copy_74 : decode cX4_copy 74 = .ok (.aload_n 0, 1) := by decide +kernel
theorem dX4_copy_75 : decode cX4_copy 75 = .ok (.getfield 29, 3) := by decide +kernel
theorem dX4_copy_78 : decode cX4_copy 78 = .ok (.iload_n 1, 1) := by decide +kernel
theorem dX4_copy_79 : decode cX4_copy 79 = .ok (.iaload, 1) := by decide +kernel
theorem dX4_copy_80 : decode cX4_copy 80 = .ok (.iastore, 1) := by decide +kernel
theorem dX4_copy_81 : decode cX4_copy 81 = .ok (.aload_n 0, 1) := by decide +kernel
theorem dX4_copy_82 : decode cX4_copy 82 = .ok (.getfield 32, 3) := by decide +kernel
theorem dX4_copy_85 : decode cX4_copy 85 = .ok (.iload_n 2, 1) := by decide +kernel
theorem dX4_copy_86 : decode cX4_copy 86 = .ok (.aload_n 0, 1) := by decide +kernel
theorem dX4_copy_87 : decode cX4_copy 87 = .ok (.getfield 32, 3) := by decide +kernel
theorem dX4_copy_90 : decode cX4_copy 90 = .ok (.iload_n 1, 1) := by decide +kernel
theorem dX4_copy_91 : decode cX4_copy 91 = .ok (.baload, 1) := by decide +kernel
theorem dX4_copy_92 : decode cX4_copy 92 = .ok (.bastore, 1) := by decide +kernel
theorem dX4_copy_93 : decode cX4_copy 93 = .ok (.return_, 1) := by decide +kernel
set_option maxRecDepth 20000 in
theorem ggX4_act_X4_builderIn : GoodIn wsX4_act wsX4_builderIn := goodIn_r _ [10, 2, 24, 25, 26, 27, 28, 29, 30, 31, 32, 33, 34, 35, 36, 37, 38, 39] (by decide +kernel) (by decide +kernel)
set_option maxRecDepth 20000 in
theorem gX4_act_X4_builderIn : GoodIn wsX4_act (wsV RX4 80 RX4 yX4_builderIn wsX4_builderIn) := goodIn_app (goodIn_of _ (by decide +kernel)) ggX4_act_X4_builderIn
set_option maxRecDepth 20000 in
theorem ggX4_act_X4_beyond : GoodIn wsX4_act wsX4_beyond := goodIn_r _ [14, 15, 16, 17, 18, 9, 19, 24, 25, 26, 27, 28, 29, 30, 31, 32, 33, 34, 35, 36, 37, 38, 39] (by decide +kernel) (by decide +kernel)
set_option maxRecDepth 20000 in
theorem gX4_act_X4_beyond : GoodIn wsX4_act (wsV RX4 83 RX4 yX4_beyond wsX4_beyond) := goodIn_app (goodIn_of _ (by decide +kernel)) ggX4_act_X4_beyond
set_option maxRecDepth 20000 in
theorem ggX4_act_X4_high : GoodIn wsX4_act wsX4_high := goodIn_r _ [23, 5, 24, 25, 26, 27, 28, 29, 30, 31, 32, 33, 34, 35, 36, 37, 38, 39] (by decide +kernel) (by decide +kernel)
set_option maxRecDepth 20000 in
theorem gX4_act_X4_high : GoodIn wsX4_act (wsV RX4 72 RX4 yX4_high wsX4_high) := goodIn_app (goodIn_of _ (by decide +kernel)) ggX4_act_X4_high
theorem dX4_act_0 : decode cX4_act 0 = .ok (.aload_n 0, 1) := by decide +kernel
theorem dX4_act_1 : decode cX4_act 1 = .ok (.getfield 29, 3) := by decide +kernel
theorem dX4_act_4 : decode cX4_act 4 = .ok (.iload_n 1, 1) := by decide +kernel
theorem dX4_act_5 : decode cX4_act 5 = .ok (.iaload, 1) := by decide +kernel
theorem dX4_act_6 : decode cX4_act 6 = .ok (.istore_n 3, 1) := by decide +kernel
theorem dX4_act_7 : decode cX4_act 7 = .ok (.iconst 4, 1) := by decide +kernel
theorem dX4_act_8 : decode cX4_act 8 = .ok (.iload_n 1, 1) := by decide +kernel
theorem dX4_act_9 : decode cX4_act 9 = .ok (.imul, 1) := by decide +kernel
theorem dX4_act_10 : decode cX4_act 10 = .ok (.iconst 2, 1) := by decide +kernel
theorem dX4_act_11 : decode cX4_act 11 = .ok (.iload_n 3, 1) := by decide +kernel
theorem dX4_act_12 : decode cX4_act 12 = .ok (.imul, 1) := by decide +kernel
theorem dX4_act_13 : decode cX4_act 13 = .ok (.iadd, 1) := by decide +kernel
theorem dX4_act_14 : decode cX4_act 14 = .ok (.iload_n 2, 1) := by decide +kernel
theorem dX4_act_15 : decode cX4_act 15 = .ok (.sipush 10000, 3) := by decide +kernel
theorem dX4_act_18 : decode cX4_act 18 = .ok (.idiv, 1) := by decide +kernel
theorem dX4_act_19 : decode cX4_act 19 = .ok (.iadd, 1) := by decide +kernel
theorem dX4_act_20 : decode cX4_act 20 = .ok (.istore 4, 2) := by decide +kernel
theorem dX4_act_22 : decode cX4_act 22 = .ok (.aload_n 0, 1) := by decide +kernel
theorem dX4_act_23 : decode cX4_act 23 = .ok (.getfield 26, 3) := by decide +kernel
theorem dX4_act_26 : decode cX4_act 26 = .ok (.iload 4, 2) := by decide +kernel
theorem dX4_act_28 : decode cX4_act 28 = .ok (.iaload, 1) := by decide +kernel
theorem dX4_act_29 : decode cX4_act 29 = .ok (.istore 5, 2) := by decide +kernel
theorem dX4_act_31 : decode cX4_act 31 = .ok (.iload_n 2, 1) := by decide +kernel
theorem dX4_act_32 : decode cX4_act 32 = .ok (.bipush 100, 2) := by decide +kernel
theorem dX4_act_34 : decode cX4_act 34 = .ok (.idiv, 1) := by decide +kernel
theorem dX4_act_35 : decode cX4_act 35 = .ok (.bipush 100, 2) := by decide +kernel
theorem dX4_act_37 : decode cX4_act 37 = .ok (.irem, 1) := by decide +kernel
theorem dX4_act_38 : decode cX4_act 38 = .ok (.istore 6, 2) := by decide +kernel
theorem dX4_act_40 : decode cX4_act 40 = .ok (.aload_n 0, 1) := by decide +kernel
theorem dX4_act_41 : decode cX4_act 41 = .ok (.iload_n 1, 1) := by decide +kernel
theorem dX4_act_42 : decode cX4_act 42 = .ok (.iload 6, 2) := by decide +kernel
theorem dX4_act_44 : decode cX4_act 44 = .ok (.invokevirtual 80, 3) := by decide +kernel
theorem dX4_act_47 : decode cX4_act 47 = .ok (.istore 7, 2) := by decide +kernel
theorem dX4_act_49 : decode cX4_act 49 = .ok (.iload 7, 2) := by decide +kernel
theorem dX4_act_51 : decode cX4_act 51 = .ok (.iconst (-1), 1) := by decide +kernel
theorem dX4_act_52 : decode cX4_act 52 = .ok (.if_icmp .eq 37, 3) := by decide +kernel
theorem dX4_act_55 : decode cX4_act 55 = .ok (.aload_n 0, 1) := by decide +kernel
theorem dX4_act_56 : decode cX4_act 56 = .ok (.getfield 26, 3) := by decide +kernel
theorem dX4_act_59 : decode cX4_act 59 = .ok (.iconst 4, 1) := by decide +kernel
theorem dX4_act_60 : decode cX4_act 60 = .ok (.iload_n 1, 1) := by decide +kernel
theorem dX4_act_61 : decode cX4_act 61 = .ok (.imul, 1) := by decide +kernel
theorem dX4_act_62 : decode cX4_act 62 = .ok (.iload 7, 2) := by decide +kernel
theorem dX4_act_64 : decode cX4_act 64 = .ok (.iadd, 1) := by decide +kernel
theorem dX4_act_65 : decode cX4_act 65 = .ok (.aload_n 0, 1) := by decide +kernel
theorem dX4_act_66 : decode cX4_act 66 = .ok (.getfield 19, 3) := by decide +kernel
theorem dX4_act_69 : decode cX4_act 69 = .ok (.iload_n 3, 1) := by decide +kernel
theorem dX4_act_70 : decode cX4_act 70 = .ok (.iaload, 1) := by decide +kernel
theorem dX4_act_71 : decode cX4_act 71 = .ok (.iconst 2, 1) := by decide +kernel
theorem dX4_act_72 : decode cX4_act 72 = .ok (.if_icmp .ne 8, 3) := by decide +kernel
theorem dX4_act_75 : decode cX4_act 75 = .ok (.iload 5, 2) := by decide +kernel
theorem dX4_act_77 : decode cX4_act 77 = .ok (.goto 11, 3) := by decide +kernel
theorem dX4_act_80 : decode cX4_act 80 = .ok (.aload_n 0, 1) := by decide +kernel
theorem dX4_act_81 : decode cX4_act 81 = .ok (.iload 5, 2) := by decide +kernel
theorem dX4_act_83 : decode cX4_act 83 = .ok (.iload 6, 2) := by decide +kernel
theorem dX4_act_85 : decode cX4_act 85 = .ok (.invokevirtual 83, 3) := by decide +kernel
theorem dX4_act_88 : decode cX4_act 88 = .ok (.iastore, 1) := by decide +kernel
theorem dX4_act_89 : decode cX4_act 89 = .ok (.aload_n 0, 1) := by decide +kernel
theorem dX4_act_90 : decode cX4_act 90 = .ok (.getfield 26, 3) := by decide +kernel
theorem dX4_act_93 : decode cX4_act 93 = .ok (.iload 4, 2) := by decide +kernel
theorem dX4_act_95 : decode cX4_act 95 = .ok (.iload 6, 2) := by decide +kernel
theorem dX4_act_97 : decode cX4_act 97 = .ok (.iastore, 1) := by decide +kernel
theorem dX4_act_98 : decode cX4_act 98 = .ok (.aload_n 0, 1) := by decide +kernel
theorem dX4_act_99 : decode cX4_act 99 = .ok (.getfield 32, 3) := by decide +kernel
theorem dX4_act_102 : decode cX4_act 102 = .ok (.iload_n 1, 1) := by decide +kernel
theorem dX4_act_103 : decode cX4_act 103 = .ok (.aload_n 0, 1) := by decide +kernel
theorem dX4_act_104 : decode cX4_act 104 = .ok (.getfield 19, 3) := by decide +kernel
theorem dX4_act_107 : decode cX4_act 107 = .ok (.iload_n 3, 1) := by decide +kernel
theorem dX4_act_108 : decode cX4_act 108 = .ok (.iaload, 1) := by decide +kernel
theorem dX4_act_109 : decode cX4_act 109 = .ok (.iconst 4, 1) := by decide +kernel
theorem dX4_act_110 : decode cX4_act 110 = .ok (.if_icmp .ne 24, 3) := by decide +kernel
theorem dX4_act_113 : decode cX4_act 113 = .ok (.aload_n 0, 1) := by decide +kernel
theorem dX4_act_114 : decode cX4_act 114 = .ok (.iload_n 1, 1) := by decide +kernel
theorem dX4_act_115 : decode cX4_act 115 = .ok (.iload 6, 2) := by decide +kernel
theorem dX4_act_117 : decode cX4_act 117 = .ok (.invokevirtual 72, 3) := by decide +kernel
theorem dX4_act_120 : decode cX4_act 120 = .ok (.aload_n 0, 1) := by decide +kernel
theorem dX4_act_121 : decode cX4_act 121 = .ok (.iload_n 1, 1) := by decide +kernel
theorem dX4_act_122 : decode cX4_act 122 = .ok (.iload 5, 2) := by decide +kernel
theorem dX4_act_124 : decode cX4_act 124 = .ok (.invokevirtual 72, 3) := by decide +kernel
theorem dX4_act_127 : decode cX4_act 127 = .ok (.if_icmp .le 7, 3) := by decide +kernel
theorem dX4_act_130 : decode cX4_act 130 = .ok (.iconst 1, 1) := by decide +kernel
theorem dX4_act_131 : decode cX4_act 131 = .ok (.goto 4, 3) := by decide +kernel
theorem dX4_act_134 : decode cX4_act 134 = .ok (.iconst 0, 1) := by decide +kernel
theorem dX4_act_135 : decode cX4_act 135 = .ok (.bastore, 1) := by decide +kernel
theorem dX4_act_136 : decode cX4_act 136 = .ok (.iload_n 2, 1) := by decide +kernel
theorem dX4_act_137 : decode cX4_act 137 = .ok (.bipush 100, 2) := by decide +kernel
theorem dX4_act_139 : decode cX4_act 139 = .ok (.irem, 1) := by decide +kernel
theorem dX4_act_140 : decode cX4_act 140 = .ok (.istore 8, 2) := by decide +kernel
theorem dX4_act_142 : decode cX4_act 142 = .ok (.iload 8, 2) := by decide +kernel
theorem dX4_act_144 : decode cX4_act 144 = .ok (.bipush 50, 2) := by decide +kernel
theorem dX4_act_146 : decode cX4_act 146 = .ok (.if_icmp .lt 29, 3) := by decide +kernel
theorem dX4_act_149 : decode cX4_act 149 = .ok (.iload 8, 2) := by decide +kernel
theorem dX4_act_151 : decode cX4_act 151 = .ok (.bipush 99, 2) := by decide +kernel
theorem dX4_act_153 : decode cX4_act 153 = .ok (.if_icmp .eq 22, 3) := by decide +kernel
theorem dX4_act_156 : decode cX4_act 156 = .ok (.aload_n 0, 1) := by decide +kernel
theorem dX4_act_157 : decode cX4_act 157 = .ok (.getfield 23, 3) := by decide +kernel
theorem dX4_act_160 : decode cX4_act 160 = .ok (.bipush 25, 2) := by decide +kernel
theorem dX4_act_162 : decode cX4_act 162 = .ok (.iload_n 1, 1) := by decide +kernel
theorem dX4_act_163 : decode cX4_act 163 = .ok (.imul, 1) := by decide +kernel
theorem dX4_act_164 : decode cX4_act 164 = .ok (.iload 8, 2) := by decide +kernel
theorem dX4_act_166 : decode cX4_act 166 = .ok (.iadd, 1) := by decide +kernel
theorem dX4_act_167 : decode cX4_act 167 = .ok (.bipush 50, 2) := by decide +kernel
theorem dX4_act_169 : decode cX4_act 169 = .ok (.isub, 1) := by decide +kernel
theorem dX4_act_170 : decode cX4_act 170 = .ok (.iconst 4, 1) := by decide +kernel
theorem dX4_act_171 : decode cX4_act 171 = .ok (.iastore, 1) := by decide +kernel
theorem dX4_act_172 : decode cX4_act 172 = .ok (.goto 26, 3) := by decide +kernel
theorem dX4_act_175 : decode cX4_act 175 = .ok (.iload 8, 2) := by decide +kernel
theorem dX4_act_177 : decode cX4_act 177 = .ok (.bipush 99, 2) := by decide +kernel
theorem dX4_act_179 : decode cX4_act 179 = .ok (.if_icmp .eq 19, 3) := by decide +kernel
theorem dX4_act_182 : decode cX4_act 182 = .ok (.aload_n 0, 1) := by decide +kernel
theorem dX4_act_183 : decode cX4_act 183 = .ok (.getfield 23, 3) := by decide +kernel
theorem dX4_act_186 : decode cX4_act 186 = .ok (.bipush 25, 2) := by decide +kernel
theorem dX4_act_188 : decode cX4_act 188 = .ok (.iload_n 1, 1) := by decide +kernel
theorem dX4_act_189 : decode cX4_act 189 = .ok (.imul, 1) := by decide +kernel
theorem dX4_act_190 : decode cX4_act 190 = .ok (.iload 8, 2) := by decide +kernel
theorem dX4_act_192 : decode cX4_act 192 = .ok (.iadd, 1) := by decide +kernel
theorem dX4_act_193 : decode cX4_act 193 = .ok (.dup2, 1) := by decide +kernel
theorem dX4_act_194 : decode cX4_act 194 = .ok (.iaload, 1) := by decide +kernel
theorem dX4_act_195 : decode cX4_act 195 = .ok (.iconst 1, 1) := by decide +kernel
theorem dX4_act_196 : decode cX4_act 196 = .ok (.iadd, 1) := by decide +kernel
theorem dX4_act_197 : decode cX4_act 197 = .ok (.iastore, 1) := by decide +kernel
theorem dX4_act_198 : decode cX4_act 198 = .ok (.aload_n 0, 1) := by decide +kernel
theorem dX4_act_199 : decode cX4_act 199 = .ok (.getfield 29, 3) := by decide +kernel
theorem dX4_act_202 : decode cX4_act 202 = .ok (.iload_n 1, 1) := by decide +kernel
theorem dX4_act_203 : decode cX4_act 203 = .ok (.iconst 1, 1) := by decide +kernel
theorem dX4_act_204 : decode cX4_act 204 = .ok (.iload_n 3, 1) := by decide +kernel
theorem dX4_act_205 : decode cX4_act 205 = .ok (.isub, 1) := by decide +kernel
theorem dX4_act_206 : decode cX4_act 206 = .ok (.iastore, 1) := by decide +kernel
theorem dX4_act_207 : decode cX4_act 207 = .ok (.return_, 1) := by decide +kernel
set_option maxRecDepth 20000 in
theorem ggX4_judge_X4_isPlaced : GoodIn wsX4_judge wsX4_isPlaced := goodIn_r _ [7, 8, 9, 71, 72, 73, 74, 75, 76, 77, 78, 79, 80, 81, 82, 83, 84, 85, 86] (by decide +kernel) (by decide +kernel)
set_option maxRecDepth 20000 in
theorem gX4_judge_X4_isPlaced : GoodIn wsX4_judge (wsV RX4 109 RX4 yX4_isPlaced wsX4_isPlaced) := goodIn_app (goodIn_of _ (by decide +kernel)) ggX4_judge_X4_isPlaced
set_option maxRecDepth 20000 in
theorem ggX4_judge_X4_nextTurn : GoodIn wsX4_judge wsX4_nextTurn := goodIn_r _ [13, 9, 14, 15, 16, 6, 17, 18, 19, 20, 21, 22, 23, 24, 1, 25, 26, 27, 28, 29, 30, 31, 32, 33, 34, 35, 36, 37, 38, 39, 40, 41, 42, 43, 44, 45, 46, 47, 48, 49, 50, 51, 52, 53, 54, 55, 56, 57, 58, 59, 60, 61, 62, 63, 64, 65, 66, 67, 68, 69, 70, 71, 72, 73, 74, 75, 76, 77, 78, 79, 80, 81, 82, 83, 84, 85, 86] (by decide +kernel) (by decide +kernel)
set_option maxRecDepth 20000 in
theorem gX4_judge_X4_nextTurn : GoodIn wsX4_judge (wsV RX4 113 RX4 yX4_nextTurn wsX4_nextTurn) := goodIn_app (goodIn_of _ (by decide +kernel)) ggX4_judge_X4_nextTurn
theorem dX4_judge_0 : decode cX4_judge 0 = .ok (.aload_n 0, 1) := by decide +kernel
theorem dX4_judge_1 : decode cX4_judge 1 = .ok (.aload_n 0, 1) := by decide +kernel
theorem dX4_judge_2 : decode cX4_judge 2 = .ok (.invokevirtual 109, 3) := by decide +kernel
theorem dX4_judge_5 : decode cX4_judge 5 = .ok (.ifCond .eq 24, 3) := by decide +kernel
theorem dX4_judge_8 : decode cX4_judge 8 = .ok (.aload_n 0, 1) := by decide +kernel
theorem dX4_judge_9 : decode cX4_judge 9 = .ok (.iconst 0, 1) := by decide +kernel
theorem dX4_judge_10 : decode cX4_judge 10 = .ok (.iconst (-1), 1) := by decide +kernel
theorem dX4_judge_11 : decode cX4_judge 11 = .ok (.invokevirtual 113, 3) := by decide +kernel
theorem dX4_judge_14 : decode cX4_judge 14 = .ok (.iconst (-1), 1) := by decide +kernel
theorem dX4_judge_15 : decode cX4_judge 15 = .ok (.if_icmp .ne 14, 3) := by decide +kernel
theorem dX4_judge_18 : decode cX4_judge 18 = .ok (.iconst 1, 1) := by decide +kernel
theorem dX4_judge_19 : decode cX4_judge 19 = .ok (.aload_n 0, 1) := by decide +kernel
theorem dX4_judge_20 : decode cX4_judge 20 = .ok (.getfield 29, 3) := by decide +kernel
theorem dX4_judge_23 : decode cX4_judge 23 = .ok (.iconst 0, 1) := by decide +kernel
theorem dX4_judge_24 : decode cX4_judge 24 = .ok (.iaload, 1) := by decide +kernel
theorem dX4_judge_25 : decode cX4_judge 25 = .ok (.isub, 1) := by decide +kernel
theorem dX4_judge_26 : decode cX4_judge 26 = .ok (.goto 4, 3) := by decide +kernel
theorem dX4_judge_29 : decode cX4_judge 29 = .ok (.iconst (-1), 1) := by decide +kernel
theorem dX4_judge_30 : decode cX4_judge 30 = .ok (.putfield 36, 3) := by decide +kernel
theorem dX4_judge_33 : decode cX4_judge 33 = .ok (.return_, 1) := by decide +kernel
set_option maxRecDepth 20000 in
theorem ggX4_onTurnNow_X4_isPlaced : GoodIn wsX4_onTurnNow wsX4_isPlaced := goodIn_r _ [9, 3, 4, 10, 11, 12, 13, 14, 15, 16, 17, 18, 19, 20, 21, 22, 23, 24, 25] (by decide +kernel) (by decide +kernel)
set_option maxRecDepth 20000 in
theorem gX4_onTurnNow_X4_isPlaced : GoodIn wsX4_onTurnNow (wsV RX4 109 RX4 yX4_isPlaced wsX4_isPlaced) := goodIn_app (goodIn_of _ (by decide +kernel)) ggX4_onTurnNow_X4_isPlaced
theorem dX4_onTurnNow_0 : decode cX4_onTurnNow 0 = .ok (.aload_n 0, 1) := by decide +kernel
theorem dX4_onTurnNow_1 : decode cX4_onTurnNow 1 = .ok (.getfield 36, 3) := by decide +kernel
theorem dX4_onTurnNow_4 : decode cX4_onTurnNow 4 = .ok (.iconst (-1), 1) := by decide +kernel
theorem dX4_onTurnNow_5 : decode cX4_onTurnNow 5 = .ok (.if_icmp .eq 7, 3) := by decide +kernel
theorem dX4_onTurnNow_8 : decode cX4_onTurnNow 8 = .ok (.iconst (-1), 1) := by decide +kernel
theorem dX4_onTurnNow_9 : decode cX4_onTurnNow 9 = .ok (.goto 28, 3) := by decide +kernel
theorem dX4_onTurnNow_12 : decode cX4_onTurnNow 12 = .ok (.aload_n 0, 1) := by decide +kernel
theorem dX4_onTurnNow_13 : decode cX4_onTurnNow 13 = .ok (.invokevirtual 109, 3) := by decide +kernel
theorem dX4_onTurnNow_16 : decode cX4_onTurnNow 16 = .ok (.ifCond .eq 12, 3) := by decide +kernel
theorem dX4_onTurnNow_19 : decode cX4_onTurnNow 19 = .ok (.aload_n 0, 1) := by decide +kernel
theorem dX4_onTurnNow_20 : decode cX4_onTurnNow 20 = .ok (.getfield 29, 3) := by decide +kernel
theorem dX4_onTurnNow_23 : decode cX4_onTurnNow 23 = .ok (.iconst 0, 1) := by decide +kernel
theorem dX4_onTurnNow_24 : decode cX4_onTurnNow 24 = .ok (.iaload, 1) := by decide +kernel
theorem dX4_onTurnNow_25 : decode cX4_onTurnNow 25 = .ok (.goto 12, 3) := by decide +kernel
theorem dX4_onTurnNow_28 : decode cX4_onTurnNow 28 = .ok (.aload_n 0, 1) := by decide +kernel
theorem dX4_onTurnNow_29 : decode cX4_onTurnNow 29 = .ok (.getfield 62, 3) := by decide +kernel
theorem dX4_onTurnNow_32 : decode cX4_onTurnNow 32 = .ok (.aload_n 0, 1) := by decide +kernel
theorem dX4_onTurnNow_33 : decode cX4_onTurnNow 33 = .ok (.getfield 16, 3) := by decide +kernel
theorem dX4_onTurnNow_36 : decode cX4_onTurnNow 36 = .ok (.idiv, 1) := by decide +kernel
theorem dX4_onTurnNow_37 : decode cX4_onTurnNow 37 = .ok (.ireturn, 1) := by decide +kernel
set_option maxRecDepth 20000 in
theorem ggX4_place_X4_isCell : GoodIn wsX4_place wsX4_isCell := goodIn_r _ [9, 10, 11, 12, 8, 13, 14, 15, 16, 17, 18, 84, 85, 86, 87, 88, 89, 90, 91, 92, 93, 94, 95, 96, 97, 98, 99] (by decide +kernel) (by decide +kernel)
set_option maxRecDepth 20000 in
theorem gX4_place_X4_isCell : GoodIn wsX4_place (wsV RX4 95 RX4 yX4_isCell wsX4_isCell) := goodIn_app (goodIn_of _ (by decide +kernel)) ggX4_place_X4_isCell
set_option maxRecDepth 20000 in
theorem ggX4_place_X4_isPlaced : GoodIn wsX4_place wsX4_isPlaced := goodIn_r _ [22, 3, 4, 84, 85, 86, 87, 88, 89, 90, 91, 92, 93, 94, 95, 96, 97, 98, 99] (by decide +kernel) (by decide +kernel)
set_option maxRecDepth 20000 in
theorem gX4_place_X4_isPlaced : GoodIn wsX4_place (wsV RX4 109 RX4 yX4_isPlaced wsX4_isPlaced) := goodIn_app (goodIn_of _ (by decide +kernel)) ggX4_place_X4_isPlaced
set_option maxRecDepth 20000 in
theorem ggX4_place_X4_builderIn : GoodIn wsX4_place wsX4_builderIn := goodIn_r _ [26, 2, 84, 85, 86, 87, 88, 89, 90, 91, 92, 93, 94, 95, 96, 97, 98, 99] (by decide +kernel) (by decide +kernel)
set_option maxRecDepth 20000 in
theorem gX4_place_X4_builderIn : GoodIn wsX4_place (wsV RX4 80 RX4 yX4_builderIn wsX4_builderIn) := goodIn_app (goodIn_of _ (by decide +kernel)) ggX4_place_X4_builderIn
set_option maxRecDepth 20000 in
theorem ggX4_place_X4_goesWell : GoodIn wsX4_place wsX4_goesWell := goodIn_r _ [30, 31, 84, 85, 86, 87, 88, 89, 90, 91, 92, 93, 94, 95, 96, 97, 98, 99] (by decide +kernel) (by decide +kernel)
set_option maxRecDepth 20000 in
theorem gX4_place_X4_goesWell : GoodIn wsX4_place (wsV RX4 68 RX4 yX4_goesWell wsX4_goesWell) := goodIn_app (goodIn_of _ (by decide +kernel)) ggX4_place_X4_goesWell
set_option maxRecDepth 20000 in
theorem ggX4_place_X4_judge : GoodIn wsX4_place wsX4_judge := goodIn_r _ [35, 36, 37, 19, 20, 21, 8, 22, 3, 4, 38, 39, 40, 41, 10, 11, 12, 13, 14, 15, 42, 43, 44, 45, 2, 46, 47, 48, 49, 50, 51, 52, 53, 54, 55, 1, 56, 57, 58, 59, 16, 17, 18, 60, 61, 62, 63, 23, 24, 25, 26, 64, 65, 66, 67, 68, 69, 70, 71, 72, 73, 74, 75, 5, 6, 7, 9, 76, 77, 78, 79, 84, 85, 86, 87, 88, 89, 90, 91, 92, 93, 94, 95, 96, 97, 98, 99] (by decide +kernel) (by decide +kernel)
set_option maxRecDepth 20000 in
theorem gX4_place_X4_judge : GoodIn wsX4_place (wsV RX4 116 RX4 yX4_judge wsX4_judge) := goodIn_app (goodIn_of _ (by decide +kernel)) ggX4_place_X4_judge
set_option maxRecDepth 20000 in
theorem ggX4_place_X4_onTurnNow : GoodIn wsX4_place wsX4_onTurnNow := goodIn_r _ [83, 37, 36, 3, 4, 19, 20, 21, 8, 22, 84, 85, 86, 87, 88, 89, 90, 91, 92, 93, 94, 95, 96, 97, 98, 99] (by decide +kernel) (by decide +kernel)
set_option maxRecDepth 20000 in
theorem gX4_place_X4_onTurnNow : GoodIn wsX4_place (wsV RX4 119 RX4 yX4_onTurnNow wsX4_onTurnNow) := goodIn_app (goodIn_of _ (by decide +kernel)) ggX4_place_X4_onTurnNow
theorem dX4_place_0 : decode cX4_place 0 = .ok (.aload_n 0, 1) := by decide +kernel
theorem dX4_place_1 : decode cX4_place 1 = .ok (.iload_n 1, 1) := by decide +kernel
theorem dX4_place_2 : decode cX4_place 2 = .ok (.invokevirtual 95, 3) := by decide +kernel
theorem dX4_place_5 : decode cX4_place 5 = .ok (.ifCond .eq 34, 3) := by decide +kernel
theorem dX4_place_8 : decode cX4_place 8 = .ok (.aload_n 0, 1) := by decide +kernel
theorem dX4_place_9 : decode cX4_place 9 = .ok (.invokevirtual 109, 3) := by decide +kernel
theorem dX4_place_12 : decode cX4_place 12 = .ok (.ifCond .ne 23, 3) := by decide +kernel
theorem dX4_place_15 : decode cX4_place 15 = .ok (.aload_n 0, 1) := by decide +kernel
theorem dX4_place_16 : decode cX4_place 16 = .ok (.iconst 0, 1) := by decide +kernel
theorem dX4_place_17 : decode cX4_place 17 = .ok (.iload_n 1, 1) := by decide +kernel
theorem dX4_place_18 : decode cX4_place 18 = .ok (.invokevirtual 80, 3) := by decide +kernel
theorem dX4_place_21 : decode cX4_place 21 = .ok (.iconst (-1), 1) := by decide +kernel
theorem dX4_place_22 : decode cX4_place 22 = .ok (.if_icmp .ne 13, 3) := by decide +kernel
theorem dX4_place_25 : decode cX4_place 25 = .ok (.aload_n 0, 1) := by decide +kernel
theorem dX4_place_26 : decode cX4_place 26 = .ok (.getfield 23, 3) := by decide +kernel
theorem dX4_place_29 : decode cX4_place 29 = .ok (.iload_n 1, 1) := by decide +kernel
theorem dX4_place_30 : decode cX4_place 30 = .ok (.iaload, 1) := by decide +kernel
theorem dX4_place_31 : decode cX4_place 31 = .ok (.iconst 4, 1) := by decide +kernel
theorem dX4_place_32 : decode cX4_place 32 = .ok (.if_icmp .ne 7, 3) := by decide +kernel
theorem dX4_place_35 : decode cX4_place 35 = .ok (.iconst 1, 1) := by decide +kernel
theorem dX4_place_36 : decode cX4_place 36 = .ok (.goto 4, 3) := by decide +kernel
theorem dX4_place_39 : decode cX4_place 39 = .ok (.iconst 0, 1) := by decide +kernel
theorem dX4_place_40 : decode cX4_place 40 = .ok (.istore_n 2, 1) := by decide +kernel
theorem dX4_place_41 : decode cX4_place 41 = .ok (.aload_n 0, 1) := by decide +kernel
theorem dX4_place_42 : decode cX4_place 42 = .ok (.aload_n 0, 1) := by decide +kernel
theorem dX4_place_43 : decode cX4_place 43 = .ok (.iload_n 1, 1) := by decide +kernel
theorem dX4_place_44 : decode cX4_place 44 = .ok (.invokevirtual 95, 3) := by decide +kernel
theorem dX4_place_47 : decode cX4_place 47 = .ok (.ifCond .ne 7, 3) := by decide +kernel
theorem dX4_place_50 : decode cX4_place 50 = .ok (.iconst 1, 1) := by decide +kernel
theorem dX4_place_51 : decode cX4_place 51 = .ok (.goto 12, 3) := by decide +kernel
theorem dX4_place_54 : decode cX4_place 54 = .ok (.iload_n 2, 1) := by decide +kernel
theorem dX4_place_55 : decode cX4_place 55 = .ok (.ifCond .eq 7, 3) := by decide +kernel
theorem dX4_place_58 : decode cX4_place 58 = .ok (.iconst 2, 1) := by decide +kernel
theorem dX4_place_59 : decode cX4_place 59 = .ok (.goto 4, 3) := by decide +kernel
theorem dX4_place_62 : decode cX4_place 62 = .ok (.iconst 0, 1) := by decide +kernel
theorem dX4_place_63 : decode cX4_place 63 = .ok (.invokevirtual 68, 3) := by decide +kernel
theorem dX4_place_66 : decode cX4_place 66 = .ok (.ifCond .ne 5, 3) := by decide +kernel
theorem dX4_place_69 : decode cX4_place 69 = .ok (.iconst 0, 1) := by decide +kernel
theorem dX4_place_70 : decode cX4_place 70 = .ok (.ireturn, 1) := by decide +kernel
theorem dX4_place_71 : decode cX4_place 71 = .ok (.aload_n 0, 1) := by decide +kernel
theorem dX4_place_72 : decode cX4_place 72 = .ok (.getfield 26, 3) := by decide +kernel
theorem dX4_place_75 : decode cX4_place 75 = .ok (.iconst 2, 1) := by decide +kernel
theorem dX4_place_76 : decode cX4_place 76 = .ok (.aload_n 0, 1) := by decide +kernel
theorem dX4_place_77 : decode cX4_place 77 = .ok (.getfield 62, 3) := by decide +kernel
theorem dX4_place_80 : decode cX4_place 80 = .ok (.aload_n 0, 1) := by decide +kernel
theorem dX4_place_81 : decode cX4_place 81 = .ok (.getfield 16, 3) := by decide +kernel
theorem dX4_place_84 : decode cX4_place 84 = .ok (.idiv, 1) := by decide +kernel
theorem dX4_place_85 : decode cX4_place 85 = .ok (.imul, 1) := by decide +kernel
theorem dX4_place_86 : decode cX4_place 86 = .ok (.aload_n 0, 1) := by decide +kernel
theorem dX4_place_87 : decode cX4_place 87 = .ok (.getfield 62, 3) := by decide +kernel
theorem dX4_place_90 : decode cX4_place 90 = .ok (.aload_n 0, 1) := by decide +kernel
theorem dX4_place_91 : decode cX4_place 91 = .ok (.getfield 16, 3) := by decide +kernel
theorem dX4_place_94 : decode cX4_place 94 = .ok (.irem, 1) := by decide +kernel
theorem dX4_place_95 : decode cX4_place 95 = .ok (.iadd, 1) := by decide +kernel
theorem dX4_place_96 : decode cX4_place 96 = .ok (.iload_n 1, 1) := by decide +kernel
theorem dX4_place_97 : decode cX4_place 97 = .ok (.iastore, 1) := by decide +kernel
theorem dX4_place_98 : decode cX4_place 98 = .ok (.aload_n 0, 1) := by decide +kernel
theorem dX4_place_99 : decode cX4_place 99 = .ok (.dup, 1) := by decide +kernel
theorem dX4_place_100 : decode cX4_place 100 = .ok (.getfield 62, 3) := by decide +kernel
theorem dX4_place_103 : decode cX4_place 103 = .ok (.iconst 1, 1) := by decide +kernel
theorem dX4_place_104 : decode cX4_place 104 = .ok (.iadd, 1) := by decide +kernel
theorem dX4_place_105 : decode cX4_place 105 = .ok (.putfield 62, 3) := by decide +kernel
theorem dX4_place_108 : decode cX4_place 108 = .ok (.aload_n 0, 1) := by decide +kernel
theorem dX4_place_109 : decode cX4_place 109 = .ok (.invokevirtual 116, 3) := by decide +kernel
theorem dX4_place_112 : decode cX4_place 112 = .ok (.aload_n 0, 1) := by decide +kernel
theorem dX4_place_113 : decode cX4_place 113 = .ok (.invokevirtual 119, 3) := by decide +kernel
theorem dX4_place_116 : decode cX4_place 116 = .ok (.ireturn, 1) := by decide +kernel
set_option maxRecDepth 20000 in
theorem ggX4_raise_X4_isCell : GoodIn wsX4_raise wsX4_isCell := goodIn_r _ [6, 7, 8, 9, 5, 10, 11, 12, 13, 14, 15, 32, 33, 34, 35, 36, 37, 38, 39, 40, 41, 42, 43, 44, 45, 46, 47] (by decide +kernel) (by decide +kernel)
set_option maxRecDepth 20000 in
theorem gX4_raise_X4_isCell : GoodIn wsX4_raise (wsV RX4 95 RX4 yX4_isCell wsX4_isCell) := goodIn_app (goodIn_of _ (by decide +kernel)) ggX4_raise_X4_isCell
set_option maxRecDepth 20000 in
theorem ggX4_raise_X4_isPlaced : GoodIn wsX4_raise wsX4_isPlaced := goodIn_r _ [19, 20, 21, 32, 33, 34, 35, 36, 37, 38, 39, 40, 41, 42, 43, 44, 45, 46, 47] (by decide +kernel) (by decide +kernel)
set_option maxRecDepth 20000 in
theorem gX4_raise_X4_isPlaced : GoodIn wsX4_raise (wsV RX4 109 RX4 yX4_isPlaced wsX4_isPlaced) := goodIn_app (goodIn_of _ (by decide +kernel)) ggX4_raise_X4_isPlaced
set_option maxRecDepth 20000 in
theorem ggX4_raise_X4_builderIn : GoodIn wsX4_raise wsX4_builderIn := goodIn_r _ [25, 26, 32, 33, 34, 35, 36, 37, 38, 39, 40, 41, 42, 43, 44, 45, 46, 47] (by decide +kernel) (by decide +kernel)
set_option maxRecDepth 20000 in
theorem gX4_raise_X4_builderIn : GoodIn wsX4_raise (wsV RX4 80 RX4 yX4_builderIn wsX4_builderIn) := goodIn_app (goodIn_of _ (by decide +kernel)) ggX4_raise_X4_builderIn
set_option maxRecDepth 20000 in
theorem ggX4_raise_X4_in : GoodIn wsX4_raise wsX4_in := goodIn_r _ [15] (by decide +kernel) (by decide +kernel)
set_option maxRecDepth 20000 in
theorem gX4_raise_X4_in : GoodIn wsX4_raise (va_wsS RX4 58 yX4_in wsX4_in) := goodIn_app (goodIn_of _ (by decide +kernel)) ggX4_raise_X4_in
set_option maxRecDepth 20000 in
theorem ggX4_raise_X4_goesWell : GoodIn wsX4_raise wsX4_goesWell := goodIn_r _ [30, 31, 32, 33, 34, 35, 36, 37, 38, 39, 40, 41, 42, 43, 44, 45, 46, 47] (by decide +kernel) (by decide +kernel)
set_option maxRecDepth 20000 in
theorem gX4_raise_X4_goesWell : GoodIn wsX4_raise (wsV RX4 68 RX4 yX4_goesWell wsX4_goesWell) := goodIn_app (goodIn_of _ (by decide +kernel)) ggX4_raise_X4_goesWell
theorem dX4_raise_0 : decode cX4_raise 0 = .ok (.aload_n 0, 1) := by decide +kernel
theorem dX4_raise_1 : decode cX4_raise 1 = .ok (.iload_n 1, 1) := by decide +kernel
theorem dX4_raise_2 : decode cX4_raise 2 = .ok (.invokevirtual 95, 3) := by decide +kernel
theorem dX4_raise_5 : decode cX4_raise 5 = .ok (.ifCond .eq 24, 3) := by decide +kernel
theorem dX4_raise_8 : decode cX4_raise 8 = .ok (.aload_n 0, 1) := by decide +kernel
theorem dX4_raise_9 : decode cX4_raise 9 = .ok (.invokevirtual 109, 3) := by decide +kernel
theorem dX4_raise_12 : decode cX4_raise 12 = .ok (.ifCond .ne 13, 3) := by decide +kernel
theorem dX4_raise_15 : decode cX4_raise 15 = .ok (.aload_n 0, 1) := by decide +kernel
theorem dX4_raise_16 : decode cX4_raise 16 = .ok (.iconst 0, 1) := by decide +kernel
theorem dX4_raise_17 : decode cX4_raise 17 = .ok (.iload_n 1, 1) := by decide +kernel
theorem dX4_raise_18 : decode cX4_raise 18 = .ok (.invokevirtual 80, 3) := by decide +kernel
theorem dX4_raise_21 : decode cX4_raise 21 = .ok (.iconst (-1), 1) := by decide +kernel
theorem dX4_raise_22 : decode cX4_raise 22 = .ok (.if_icmp .eq 7, 3) := by decide +kernel
theorem dX4_raise_25 : decode cX4_raise 25 = .ok (.iconst 1, 1) := by decide +kernel
theorem dX4_raise_26 : decode cX4_raise 26 = .ok (.goto 4, 3) := by decide +kernel
theorem dX4_raise_29 : decode cX4_raise 29 = .ok (.iconst 0, 1) := by decide +kernel
theorem dX4_raise_30 : decode cX4_raise 30 = .ok (.istore_n 3, 1) := by decide +kernel
theorem dX4_raise_31 : decode cX4_raise 31 = .ok (.aload_n 0, 1) := by decide +kernel
theorem dX4_raise_32 : decode cX4_raise 32 = .ok (.aload_n 0, 1) := by decide +kernel
theorem dX4_raise_33 : decode cX4_raise 33 = .ok (.iload_n 1, 1) := by decide +kernel
theorem dX4_raise_34 : decode cX4_raise 34 = .ok (.invokevirtual 95, 3) := by decide +kernel
theorem dX4_raise_37 : decode cX4_raise 37 = .ok (.ifCond .ne 7, 3) := by decide +kernel
theorem dX4_raise_40 : decode cX4_raise 40 = .ok (.iconst 1, 1) := by decide +kernel
theorem dX4_raise_41 : decode cX4_raise 41 = .ok (.goto 25, 3) := by decide +kernel
theorem dX4_raise_44 : decode cX4_raise 44 = .ok (.iload_n 2, 1) := by decide +kernel
theorem dX4_raise_45 : decode cX4_raise 45 = .ok (.iconst 0, 1) := by decide +kernel
theorem dX4_raise_46 : decode cX4_raise 46 = .ok (.iconst 4, 1) := by decide +kernel
theorem dX4_raise_47 : decode cX4_raise 47 = .ok (.invokestatic 58, 3) := by decide +kernel
theorem dX4_raise_50 : decode cX4_raise 50 = .ok (.ifCond .ne 7, 3) := by decide +kernel
theorem dX4_raise_53 : decode cX4_raise 53 = .ok (.iconst 2, 1) := by decide +kernel
theorem dX4_raise_54 : decode cX4_raise 54 = .ok (.goto 12, 3) := by decide +kernel
theorem dX4_raise_57 : decode cX4_raise 57 = .ok (.iload_n 3, 1) := by decide +kernel
theorem dX4_raise_58 : decode cX4_raise 58 = .ok (.ifCond .eq 7, 3) := by decide +kernel
theorem dX4_raise_61 : decode cX4_raise 61 = .ok (.iconst 3, 1) := by decide +kernel
theorem dX4_raise_62 : decode cX4_raise 62 = .ok (.goto 4, 3) := by decide +kernel
theorem dX4_raise_65 : decode cX4_raise 65 = .ok (.iconst 0, 1) := by decide +kernel
theorem dX4_raise_66 : decode cX4_raise 66 = .ok (.invokevirtual 68, 3) := by decide +kernel
theorem dX4_raise_69 : decode cX4_raise 69 = .ok (.ifCond .ne 5, 3) := by decide +kernel
theorem dX4_raise_72 : decode cX4_raise 72 = .ok (.iconst 0, 1) := by decide +kernel
theorem dX4_raise_73 : decode cX4_raise 73 = .ok (.ireturn, 1) := by decide +kernel
theorem dX4_raise_74 : decode cX4_raise 74 = .ok (.aload_n 0, 1) := by decide +kernel
theorem dX4_raise_75 : decode cX4_raise 75 = .ok (.getfield 23, 3) := by decide +kernel
theorem dX4_raise_78 : decode cX4_raise 78 = .ok (.iload_n 1, 1) := by decide +kernel
theorem dX4_raise_79 : decode cX4_raise 79 = .ok (.iaload, 1) := by decide +kernel
theorem dX4_raise_80 : decode cX4_raise 80 = .ok (.istore 4, 2) := by decide +kernel
theorem dX4_raise_82 : decode cX4_raise 82 = .ok (.aload_n 0, 1) := by decide +kernel
theorem dX4_raise_83 : decode cX4_raise 83 = .ok (.getfield 23, 3) := by decide +kernel
theorem dX4_raise_86 : decode cX4_raise 86 = .ok (.iload_n 1, 1) := by decide +kernel
theorem dX4_raise_87 : decode cX4_raise 87 = .ok (.iload_n 2, 1) := by decide +kernel
theorem dX4_raise_88 : decode cX4_raise 88 = .ok (.iastore, 1) := by decide +kernel
theorem dX4_raise_89 : decode cX4_raise 89 = .ok (.iload 4, 2) := by decide +kernel
theorem dX4_raise_91 : decode cX4_raise 91 = .ok (.ireturn, 1) := by decide +kernel
set_option maxRecDepth 20000 in
theorem ggX4_onTurn_X4_onTurnNow : GoodIn wsX4_onTurn wsX4_onTurnNow := goodIn_r _ [6, 7, 8, 9, 10, 11, 12, 13, 5, 14, 15, 16, 17, 18, 19, 20, 21, 22, 23, 24, 25, 26, 27, 28, 29, 30] (by decide +kernel) (by decide +kernel)
set_option maxRecDepth 20000 in
theorem gX4_onTurn_X4_onTurnNow : GoodIn wsX4_onTurn (wsV RX4 119 RX4 yX4_onTurnNow wsX4_onTurnNow) := goodIn_app (goodIn_of _ (by decide +kernel)) ggX4_onTurn_X4_onTurnNow
theorem dX4_onTurn_0 : decode cX4_onTurn 0 = .ok (.aload_n 0, 1) := by decide +kernel
theorem dX4_onTurn_1 : decode cX4_onTurn 1 = .ok (.iconst 0, 1) := by decide +kernel
theorem dX4_onTurn_2 : decode cX4_onTurn 2 = .ok (.putfield 51, 3) := by decide +kernel
theorem dX4_onTurn_5 : decode cX4_onTurn 5 = .ok (.aload_n 0, 1) := by decide +kernel
theorem dX4_onTurn_6 : decode cX4_onTurn 6 = .ok (.invokevirtual 119, 3) := by decide +kernel
theorem dX4_onTurn_9 : decode cX4_onTurn 9 = .ok (.ireturn, 1) := by decide +kernel
theorem dX4_winner_0 : decode cX4_winner 0 = .ok (.aload_n 0, 1) := by decide +kernel
theorem dX4_winner_1 : decode cX4_winner 1 = .ok (.iconst 0, 1) := by decide +kernel
theorem dX4_winner_2 : decode cX4_winner 2 = .ok (.putfield 51, 3) := by decide +kernel
theorem dX4_winner_5 : decode cX4_winner 5 = .ok (.aload_n 0, 1) := by decide +kernel
theorem dX4_winner_6 : decode cX4_winner 6 = .ok (.getfield 36, 3) := by decide +kernel
theorem dX4_winner_9 : decode cX4_winner 9 = .ok (.ireturn, 1) := by decide +kernel
set_option maxRecDepth 20000 in
theorem ggX4_height_X4_isCell : GoodIn wsX4_height wsX4_isCell := goodIn_r _ [6, 7, 8, 9, 5, 10, 11, 12, 13, 14, 15, 21, 22, 23, 24, 25, 26, 27, 28, 29, 30, 31, 32, 33, 34, 35, 36] (by decide +kernel) (by decide +kernel)
set_option maxRecDepth 20000 in
theorem gX4_height_X4_isCell : GoodIn wsX4_height (wsV RX4 95 RX4 yX4_isCell wsX4_isCell) := goodIn_app (goodIn_of _ (by decide +kernel)) ggX4_height_X4_isCell
set_option maxRecDepth 20000 in
theorem ggX4_height_X4_goesWell : GoodIn wsX4_height wsX4_goesWell := goodIn_r _ [19, 20, 21, 22, 23, 24, 25, 26, 27, 28, 29, 30, 31, 32, 33, 34, 35, 36] (by decide +kernel) (by decide +kernel)
set_option maxRecDepth 20000 in
theorem gX4_height_X4_goesWell : GoodIn wsX4_height (wsV RX4 68 RX4 yX4_goesWell wsX4_goesWell) := goodIn_app (goodIn_of _ (by decide +kernel)) ggX4_height_X4_goesWell
theorem dX4_height_0 : decode cX4_height 0 = .ok (.aload_n 0, 1) := by decide +kernel
theorem dX4_height_1 : decode cX4_height 1 = .ok (.aload_n 0, 1) := by decide +kernel
theorem dX4_height_2 : decode cX4_height 2 = .ok (.iload_n 1, 1) := by decide +kernel
theorem dX4_height_3 : decode cX4_height 3 = .ok (.invokevirtual 95, 3) := by decide +kernel
theorem dX4_height_6 : decode cX4_height 6 = .ok (.ifCond .eq 7, 3) := by decide +kernel
theorem dX4_height_9 : decode cX4_height 9 = .ok (.iconst 0, 1) := by decide +kernel
theorem dX4_height_10 : decode cX4_height 10 = .ok (.goto 4, 3) := by decide +kernel
theorem dX4_height_13 : decode cX4_height 13 = .ok (.iconst 1, 1) := by decide +kernel
theorem dX4_height_14 : decode cX4_height 14 = .ok (.invokevirtual 68, 3) := by decide +kernel
theorem dX4_height_17 : decode cX4_height 17 = .ok (.ifCond .eq 12, 3) := by decide +kernel
theorem dX4_height_20 : decode cX4_height 20 = .ok (.aload_n 0, 1) := by decide +kernel
theorem dX4_height_21 : decode cX4_height 21 = .ok (.getfield 23, 3) := by decide +kernel
theorem dX4_height_24 : decode cX4_height 24 = .ok (.iload_n 1, 1) := by decide +kernel
theorem dX4_height_25 : decode cX4_height 25 = .ok (.iaload, 1) := by decide +kernel
theorem dX4_height_26 : decode cX4_height 26 = .ok (.goto 4, 3) := by decide +kernel
theorem dX4_height_29 : decode cX4_height 29 = .ok (.iconst 0, 1) := by decide +kernel
theorem dX4_height_30 : decode cX4_height 30 = .ok (.ireturn, 1) := by decide +kernel
set_option maxRecDepth 20000 in
theorem ggX4_builderAt_X4_isCell : GoodIn wsX4_builderAt wsX4_isCell := goodIn_r _ [5, 6, 7, 8, 4, 9, 10, 11, 12, 13, 14, 25, 26, 27, 28, 29, 30, 31, 32, 33, 34, 35, 36, 37, 38, 39, 40] (by decide +kernel) (by decide +kernel)
set_option maxRecDepth 20000 in
theorem gX4_builderAt_X4_isCell : GoodIn wsX4_builderAt (wsV RX4 95 RX4 yX4_isCell wsX4_isCell) := goodIn_app (goodIn_of _ (by decide +kernel)) ggX4_builderAt_X4_isCell
set_option maxRecDepth 20000 in
theorem ggX4_builderAt_X4_goesWell : GoodIn wsX4_builderAt wsX4_goesWell := goodIn_r _ [18, 19, 25, 26, 27, 28, 29, 30, 31, 32, 33, 34, 35, 36, 37, 38, 39, 40] (by decide +kernel) (by decide +kernel)
set_option maxRecDepth 20000 in
theorem gX4_builderAt_X4_goesWell : GoodIn wsX4_builderAt (wsV RX4 68 RX4 yX4_goesWell wsX4_goesWell) := goodIn_app (goodIn_of _ (by decide +kernel)) ggX4_builderAt_X4_goesWell
set_option maxRecDepth 20000 in
theorem ggX4_builderAt_X4_builderIn : GoodIn wsX4_builderAt wsX4_builderIn := goodIn_r _ [23, 24, 25, 26, 27, 28, 29, 30, 31, 32, 33, 34, 35, 36, 37, 38, 39, 40] (by decide +kernel) (by decide +kernel)
set_option maxRecDepth 20000 in
theorem gX4_builderAt_X4_builderIn : GoodIn wsX4_builderAt (wsV RX4 80 RX4 yX4_builderIn wsX4_builderIn) := goodIn_app (goodIn_of _ (by decide +kernel)) ggX4_builderAt_X4_builderIn
theorem dX4_builderAt_0 : decode cX4_builderAt 0 = .ok (.aload_n 0, 1) := by decide +kernel
theorem dX4_builderAt_1 : decode cX4_builderAt 1 = .ok (.aload_n 0, 1) := by decide +kernel
theorem dX4_builderAt_2 : decode cX4_builderAt 2 = .ok (.iload_n 1, 1) := by decide +kernel
theorem dX4_builderAt_3 : decode cX4_builderAt 3 = .ok (.invokevirtual 95, 3) := by decide +kernel
theorem dX4_builderAt_6 : decode cX4_builderAt 6 = .ok (.ifCond .eq 7, 3) := by decide +kernel
theorem dX4_builderAt_9 : decode cX4_builderAt 9 = .ok (.iconst 0, 1) := by decide +kernel
theorem dX4_builderAt_10 : decode cX4_builderAt 10 = .ok (.goto 4, 3) := by decide +kernel
theorem dX4_builderAt_13 : decode cX4_builderAt 13 = .ok (.iconst 1, 1) := by decide +kernel
theorem dX4_builderAt_14 : decode cX4_builderAt 14 = .ok (.invokevirtual 68, 3) := by decide +kernel
theorem dX4_builderAt_17 : decode cX4_builderAt 17 = .ok (.ifCond .ne 5, 3) := by decide +kernel
theorem dX4_builderAt_20 : decode cX4_builderAt 20 = .ok (.iconst 0, 1) := by decide +kernel
theorem dX4_builderAt_21 : decode cX4_builderAt 21 = .ok (.ireturn, 1) := by decide +kernel
theorem dX4_builderAt_22 : decode cX4_builderAt 22 = .ok (.aload_n 0, 1) := by decide +kernel
theorem dX4_builderAt_23 : decode cX4_builderAt 23 = .ok (.iconst 0, 1) := by decide +kernel
theorem dX4_builderAt_24 : decode cX4_builderAt 24 = .ok (.iload_n 1, 1) := by decide +kernel
theorem dX4_builderAt_25 : decode cX4_builderAt 25 = .ok (.invokevirtual 80, 3) := by decide +kernel
theorem dX4_builderAt_28 : decode cX4_builderAt 28 = .ok (.istore_n 2, 1) := by decide +kernel
theorem dX4_builderAt_29 : decode cX4_builderAt 29 = .ok (.iload_n 2, 1) := by decide +kernel
theorem dX4_builderAt_30 : decode cX4_builderAt 30 = .ok (.iconst (-1), 1) := by decide +kernel
theorem dX4_builderAt_31 : decode cX4_builderAt 31 = .ok (.if_icmp .ne 7, 3) := by decide +kernel
theorem dX4_builderAt_34 : decode cX4_builderAt 34 = .ok (.iconst (-1), 1) := by decide +kernel
theorem dX4_builderAt_35 : decode cX4_builderAt 35 = .ok (.goto 13, 3) := by decide +kernel
theorem dX4_builderAt_38 : decode cX4_builderAt 38 = .ok (.bipush 10, 2) := by decide +kernel
theorem dX4_builderAt_40 : decode cX4_builderAt 40 = .ok (.iload_n 2, 1) := by decide +kernel
theorem dX4_builderAt_41 : decode cX4_builderAt 41 = .ok (.iconst 2, 1) := by decide +kernel
theorem dX4_builderAt_42 : decode cX4_builderAt 42 = .ok (.idiv, 1) := by decide +kernel
theorem dX4_builderAt_43 : decode cX4_builderAt 43 = .ok (.imul, 1) := by decide +kernel
theorem dX4_builderAt_44 : decode cX4_builderAt 44 = .ok (.iload_n 2, 1) := by decide +kernel
theorem dX4_builderAt_45 : decode cX4_builderAt 45 = .ok (.iconst 2, 1) := by decide +kernel
theorem dX4_builderAt_46 : decode cX4_builderAt 46 = .ok (.irem, 1) := by decide +kernel
theorem dX4_builderAt_47 : decode cX4_builderAt 47 = .ok (.iadd, 1) := by decide +kernel
theorem dX4_builderAt_48 : decode cX4_builderAt 48 = .ok (.ireturn, 1) := by decide +kernel
theorem dX4_played_0 : decode cX4_played 0 = .ok (.aload_n 0, 1) := by decide +kernel
theorem dX4_played_1 : decode cX4_played 1 = .ok (.iconst 0, 1) := by decide +kernel
theorem dX4_played_2 : decode cX4_played 2 = .ok (.putfield 51, 3) := by decide +kernel
theorem dX4_played_5 : decode cX4_played 5 = .ok (.aload_n 0, 1) := by decide +kernel
theorem dX4_played_6 : decode cX4_played 6 = .ok (.getfield 65, 3) := by decide +kernel
theorem dX4_played_9 : decode cX4_played 9 = .ok (.ireturn, 1) := by decide +kernel
set_option maxRecDepth 20000 in
theorem ggX4_countTurns_X4_nextTurn : GoodIn wsX4_countTurns wsX4_nextTurn := goodIn_r _ [6, 7, 8, 9, 10, 5, 11, 12, 13, 14, 15, 16, 17, 18, 19, 20, 21, 22, 23, 24, 25, 26, 27, 28, 29, 30, 31, 32, 33, 34, 35, 36, 37, 38, 39, 40, 41, 42, 43, 44, 45, 46, 47, 48, 49, 50, 51, 52, 53, 54, 55, 56, 57, 58, 59, 60, 61, 62, 63, 64, 65, 66, 67, 68, 69, 70, 71, 72, 73, 74, 75, 76, 77, 78, 79, 80, 81] (by decide +kernel) (by decide +kernel)
set_option maxRecDepth 20000 in
theorem gX4_countTurns_X4_nextTurn : GoodIn wsX4_countTurns (wsV RX4 113 RX4 yX4_nextTurn wsX4_nextTurn) := goodIn_app (goodIn_of _ (by decide +kernel)) ggX4_countTurns_X4_nextTurn
theorem dX4_countTurns_0 : decode cX4_countTurns 0 = .ok (.iconst 0, 1) := by decide +kernel
theorem dX4_countTurns_1 : decode cX4_countTurns 1 = .ok (.istore_n 1, 1) := by decide +kernel
theorem dX4_countTurns_2 : decode cX4_countTurns 2 = .ok (.aload_n 0, 1) := by decide +kernel
theorem dX4_countTurns_3 : decode cX4_countTurns 3 = .ok (.getfield 36, 3) := by decide +kernel
theorem dX4_countTurns_6 : decode cX4_countTurns 6 = .ok (.iconst (-1), 1) := by decide +kernel
theorem dX4_countTurns_7 : decode cX4_countTurns 7 = .ok (.if_icmp .ne 12, 3) := by decide +kernel
theorem dX4_countTurns_10 : decode cX4_countTurns 10 = .ok (.aload_n 0, 1) := by decide +kernel
theorem dX4_countTurns_11 : decode cX4_countTurns 11 = .ok (.iconst 0, 1) := by decide +kernel
theorem dX4_countTurns_12 : decode cX4_countTurns 12 = .ok (.iconst (-1), 1) := by decide +kernel
theorem dX4_countTurns_13 : decode cX4_countTurns 13 = .ok (.invokevirtual 113, 3) := by decide +kernel
theorem dX4_countTurns_16 : decode cX4_countTurns 16 = .ok (.goto 4, 3) := by decide +kernel
theorem dX4_countTurns_19 : decode cX4_countTurns 19 = .ok (.iconst (-1), 1) := by decide +kernel
theorem dX4_countTurns_20 : decode cX4_countTurns 20 = .ok (.istore_n 2, 1) := by decide +kernel
theorem dX4_countTurns_21 : decode cX4_countTurns 21 = .ok (.iload_n 2, 1) := by decide +kernel
theorem dX4_countTurns_22 : decode cX4_countTurns 22 = .ok (.iconst (-1), 1) := by decide +kernel
theorem dX4_countTurns_23 : decode cX4_countTurns 23 = .ok (.if_icmp .eq 16, 3) := by decide +kernel
theorem dX4_countTurns_26 : decode cX4_countTurns 26 = .ok (.iinc 1 1, 3) := by decide +kernel
theorem dX4_countTurns_29 : decode cX4_countTurns 29 = .ok (.aload_n 0, 1) := by decide +kernel
theorem dX4_countTurns_30 : decode cX4_countTurns 30 = .ok (.iconst 0, 1) := by decide +kernel
theorem dX4_countTurns_31 : decode cX4_countTurns 31 = .ok (.iload_n 2, 1) := by decide +kernel
theorem dX4_countTurns_32 : decode cX4_countTurns 32 = .ok (.invokevirtual 113, 3) := by decide +kernel
theorem dX4_countTurns_35 : decode cX4_countTurns 35 = .ok (.istore_n 2, 1) := by decide +kernel
theorem dX4_countTurns_36 : decode cX4_countTurns 36 = .ok (.goto (-15), 3) := by decide +kernel
theorem dX4_countTurns_39 : decode cX4_countTurns 39 = .ok (.iload_n 1, 1) := by decide +kernel
theorem dX4_countTurns_40 : decode cX4_countTurns 40 = .ok (.ireturn, 1) := by decide +kernel
set_option maxRecDepth 20000 in
theorem ggX4_turnCount_X4_isPlaced : GoodIn wsX4_turnCount wsX4_isPlaced := goodIn_r _ [5, 6, 7, 80, 81, 82, 83, 84, 85, 86, 87, 88, 89, 90, 91, 92, 93, 94, 95] (by decide +kernel) (by decide +kernel)
set_option maxRecDepth 20000 in
theorem gX4_turnCount_X4_isPlaced : GoodIn wsX4_turnCount (wsV RX4 109 RX4 yX4_isPlaced wsX4_isPlaced) := goodIn_app (goodIn_of _ (by decide +kernel)) ggX4_turnCount_X4_isPlaced
set_option maxRecDepth 20000 in
theorem ggX4_turnCount_X4_goesWell : GoodIn wsX4_turnCount wsX4_goesWell := goodIn_r _ [11, 12, 80, 81, 82, 83, 84, 85, 86, 87, 88, 89, 90, 91, 92, 93, 94, 95] (by decide +kernel) (by decide +kernel)
set_option maxRecDepth 20000 in
theorem gX4_turnCount_X4_goesWell : GoodIn wsX4_turnCount (wsV RX4 68 RX4 yX4_goesWell wsX4_goesWell) := goodIn_app (goodIn_of _ (by decide +kernel)) ggX4_turnCount_X4_goesWell
set_option maxRecDepth 20000 in
theorem ggX4_turnCount_X4_countTurns : GoodIn wsX4_turnCount wsX4_countTurns := goodIn_r _ [16, 17, 18, 19, 20, 4, 21, 7, 22, 23, 24, 25, 26, 27, 28, 29, 30, 31, 32, 33, 34, 35, 36, 37, 38, 39, 40, 41, 42, 43, 44, 45, 46, 47, 48, 49, 50, 51, 52, 53, 54, 55, 56, 57, 58, 59, 60, 61, 62, 63, 64, 65, 66, 67, 68, 69, 70, 71, 72, 73, 74, 75, 76, 77, 78, 79, 80, 81, 82, 83, 84, 85, 86, 87, 88, 89, 90, 91, 92, 93, 94, 95] (by decide +kernel) (by decide +kernel)
set_option maxRecDepth 20000 in
theorem gX4_turnCount_X4_countTurns : GoodIn wsX4_turnCount (wsV RX4 122 RX4 yX4_countTurns wsX4_countTurns) := goodIn_app (goodIn_of _ (by decide +kernel)) ggX4_turnCount_X4_countTurns
theorem dX4_turnCount_0 : decode cX4_turnCount 0 = .ok (.aload_n 0, 1) := by decide +kernel
theorem dX4_turnCount_1 : decode cX4_turnCount 1 = .ok (.aload_n 0, 1) := by decide +kernel
theorem dX4_turnCount_2 : decode cX4_turnCount 2 = .ok (.invokevirtual 109, 3) := by decide +kernel
theorem dX4_turnCount_5 : decode cX4_turnCount 5 = .ok (.ifCond .eq 7, 3) := by decide +kernel
theorem dX4_turnCount_8 : decode cX4_turnCount 8 = .ok (.iconst 0, 1) := by decide +kernel
theorem dX4_turnCount_9 : decode cX4_turnCount 9 = .ok (.goto 4, 3) := by decide +kernel
theorem dX4_turnCount_12 : decode cX4_turnCount 12 = .ok (.iconst 1, 1) := by decide +kernel
theorem dX4_turnCount_13 : decode cX4_turnCount 13 = .ok (.invokevirtual 68, 3) := by decide +kernel
theorem dX4_turnCount_16 : decode cX4_turnCount 16 = .ok (.ifCond .eq 10, 3) := by decide +kernel
theorem dX4_turnCount_19 : decode cX4_turnCount 19 = .ok (.aload_n 0, 1) := by decide +kernel
theorem dX4_turnCount_20 : decode cX4_turnCount 20 = .ok (.invokevirtual 122, 3) := by decide +kernel
theorem dX4_turnCount_23 : decode cX4_turnCount 23 = .ok (.goto 4, 3) := by decide +kernel
theorem dX4_turnCount_26 : decode cX4_turnCount 26 = .ok (.iconst 0, 1) := by decide +kernel
theorem dX4_turnCount_27 : decode cX4_turnCount 27 = .ok (.ireturn, 1) := by decide +kernel
set_option maxRecDepth 20000 in
theorem ggX4_turnAt_X4_isPlaced : GoodIn wsX4_turnAt wsX4_isPlaced := goodIn_r _ [5, 6, 7, 80, 81, 82, 83, 84, 85, 86, 87, 88, 89, 90, 91, 92, 93, 94, 95] (by decide +kernel) (by decide +kernel)
set_option maxRecDepth 20000 in
theorem gX4_turnAt_X4_isPlaced : GoodIn wsX4_turnAt (wsV RX4 109 RX4 yX4_isPlaced wsX4_isPlaced) := goodIn_app (goodIn_of _ (by decide +kernel)) ggX4_turnAt_X4_isPlaced
set_option maxRecDepth 20000 in
theorem ggX4_turnAt_X4_countTurns : GoodIn wsX4_turnAt wsX4_countTurns := goodIn_r _ [11, 12, 13, 14, 15, 4, 16, 7, 17, 18, 19, 20, 21, 22, 23, 24, 25, 26, 27, 28, 29, 30, 31, 32, 33, 34, 35, 36, 37, 38, 39, 40, 41, 42, 43, 44, 45, 46, 47, 48, 49, 50, 51, 52, 53, 54, 55, 56, 57, 58, 59, 60, 61, 62, 63, 64, 65, 66, 67, 68, 69, 70, 71, 72, 73, 74, 80, 81, 82, 83, 84, 85, 86, 87, 88, 89, 90, 91, 92, 93, 94, 95] (by decide +kernel) (by decide +kernel)
set_option maxRecDepth 20000 in
theorem gX4_turnAt_X4_countTurns : GoodIn wsX4_turnAt (wsV RX4 122 RX4 yX4_countTurns wsX4_countTurns) := goodIn_app (goodIn_of _ (by decide +kernel)) ggX4_turnAt_X4_countTurns
set_option maxRecDepth 20000 in
theorem ggX4_turnAt_X4_in : GoodIn wsX4_turnAt wsX4_in := goodIn_r _ [46] (by decide +kernel) (by decide +kernel)
set_option maxRecDepth 20000 in
theorem gX4_turnAt_X4_in : GoodIn wsX4_turnAt (va_wsS RX4 58 yX4_in wsX4_in) := goodIn_app (goodIn_of _ (by decide +kernel)) ggX4_turnAt_X4_in
set_option maxRecDepth 20000 in
theorem ggX4_turnAt_X4_goesWell : GoodIn wsX4_turnAt wsX4_goesWell := goodIn_r _ [78, 79, 80, 81, 82, 83, 84, 85, 86, 87, 88, 89, 90, 91, 92, 93, 94, 95] (by decide +kernel) (by decide +kernel)
set_option maxRecDepth 20000 in
theorem gX4_turnAt_X4_goesWell : GoodIn wsX4_turnAt (wsV RX4 68 RX4 yX4_goesWell wsX4_goesWell) := goodIn_app (goodIn_of _ (by decide +kernel)) ggX4_turnAt_X4_goesWell
set_option maxRecDepth 20000 in
theorem ggX4_turnAt_X4_nextTurn : GoodIn wsX4_turnAt wsX4_nextTurn := goodIn_r _ [16, 7, 17, 18, 19, 4, 20, 21, 22, 23, 24, 25, 26, 27, 28, 29, 30, 31, 32, 33, 34, 35, 36, 37, 38, 39, 40, 41, 42, 43, 44, 45, 46, 47, 48, 49, 50, 51, 52, 53, 54, 55, 56, 57, 58, 59, 60, 61, 62, 63, 64, 65, 66, 67, 68, 69, 70, 71, 72, 73, 74, 80, 81, 82, 83, 84, 85, 86, 87, 88, 89, 90, 91, 92, 93, 94, 95] (by decide +kernel) (by decide +kernel)
set_option maxRecDepth 20000 in
theorem gX4_turnAt_X4_nextTurn : GoodIn wsX4_turnAt (wsV RX4 113 RX4 yX4_nextTurn wsX4_nextTurn) := goodIn_app (goodIn_of _ (by decide +kernel)) ggX4_turnAt_X4_nextTurn
theorem dX4_turnAt_0 : decode cX4_turnAt 0 = .ok (.aload_n 0, 1) := by decide +kernel
theorem dX4_turnAt_1 : decode cX4_turnAt 1 = .ok (.invokevirtual 109, 3) := by decide +kernel
theorem dX4_turnAt_4 : decode cX4_turnAt 4 = .ok (.ifCond .eq 21, 3) := by decide +kernel
theorem dX4_turnAt_7 : decode cX4_turnAt 7 = .ok (.iload_n 1, 1) := by decide +kernel
theorem dX4_turnAt_8 : decode cX4_turnAt 8 = .ok (.iconst 0, 1) := by decide +kernel
theorem dX4_turnAt_9 : decode cX4_turnAt 9 = .ok (.aload_n 0, 1) := by decide +kernel
theorem dX4_turnAt_10 : decode cX4_turnAt 10 = .ok (.invokevirtual 122, 3) := by decide +kernel
theorem dX4_turnAt_13 : decode cX4_turnAt 13 = .ok (.iconst 1, 1) := by decide +kernel
theorem dX4_turnAt_14 : decode cX4_turnAt 14 = .ok (.isub, 1) := by decide +kernel
theorem dX4_turnAt_15 : decode cX4_turnAt 15 = .ok (.invokestatic 58, 3) := by decide +kernel
theorem dX4_turnAt_18 : decode cX4_turnAt 18 = .ok (.ifCond .eq 7, 3) := by decide +kernel
theorem dX4_turnAt_21 : decode cX4_turnAt 21 = .ok (.iconst 1, 1) := by decide +kernel
theorem dX4_turnAt_22 : decode cX4_turnAt 22 = .ok (.goto 4, 3) := by decide +kernel
theorem dX4_turnAt_25 : decode cX4_turnAt 25 = .ok (.iconst 0, 1) := by decide +kernel
theorem dX4_turnAt_26 : decode cX4_turnAt 26 = .ok (.istore_n 2, 1) := by decide +kernel
theorem dX4_turnAt_27 : decode cX4_turnAt 27 = .ok (.aload_n 0, 1) := by decide +kernel
theorem dX4_turnAt_28 : decode cX4_turnAt 28 = .ok (.aload_n 0, 1) := by decide +kernel
theorem dX4_turnAt_29 : decode cX4_turnAt 29 = .ok (.invokevirtual 109, 3) := by decide +kernel
theorem dX4_turnAt_32 : decode cX4_turnAt 32 = .ok (.ifCond .ne 7, 3) := by decide +kernel
theorem dX4_turnAt_35 : decode cX4_turnAt 35 = .ok (.iconst 2, 1) := by decide +kernel
theorem dX4_turnAt_36 : decode cX4_turnAt 36 = .ok (.goto 12, 3) := by decide +kernel
theorem dX4_turnAt_39 : decode cX4_turnAt 39 = .ok (.iload_n 2, 1) := by decide +kernel
theorem dX4_turnAt_40 : decode cX4_turnAt 40 = .ok (.ifCond .eq 7, 3) := by decide +kernel
theorem dX4_turnAt_43 : decode cX4_turnAt 43 = .ok (.iconst 0, 1) := by decide +kernel
theorem dX4_turnAt_44 : decode cX4_turnAt 44 = .ok (.goto 4, 3) := by decide +kernel
theorem dX4_turnAt_47 : decode cX4_turnAt 47 = .ok (.iconst 1, 1) := by decide +kernel
theorem dX4_turnAt_48 : decode cX4_turnAt 48 = .ok (.invokevirtual 68, 3) := by decide +kernel
theorem dX4_turnAt_51 : decode cX4_turnAt 51 = .ok (.ifCond .ne 5, 3) := by decide +kernel
theorem dX4_turnAt_54 : decode cX4_turnAt 54 = .ok (.iconst 0, 1) := by decide +kernel
theorem dX4_turnAt_55 : decode cX4_turnAt 55 = .ok (.ireturn, 1) := by decide +kernel
theorem dX4_turnAt_56 : decode cX4_turnAt 56 = .ok (.aload_n 0, 1) := by decide +kernel
theorem dX4_turnAt_57 : decode cX4_turnAt 57 = .ok (.iconst 0, 1) := by decide +kernel
theorem dX4_turnAt_58 : decode cX4_turnAt 58 = .ok (.iconst (-1), 1) := by decide +kernel
theorem dX4_turnAt_59 : decode cX4_turnAt 59 = .ok (.invokevirtual 113, 3) := by decide +kernel
theorem dX4_turnAt_62 : decode cX4_turnAt 62 = .ok (.istore_n 3, 1) := by decide +kernel
theorem dX4_turnAt_63 : decode cX4_turnAt 63 = .ok (.iconst 0, 1) := by decide +kernel
theorem dX4_turnAt_64 : decode cX4_turnAt 64 = .ok (.istore 4, 2) := by decide +kernel
theorem dX4_turnAt_66 : decode cX4_turnAt 66 = .ok (.iload 4, 2) := by decide +kernel
theorem dX4_turnAt_68 : decode cX4_turnAt 68 = .ok (.iload_n 1, 1) := by decide +kernel
theorem dX4_turnAt_69 : decode cX4_turnAt 69 = .ok (.if_icmp .ge 16, 3) := by decide +kernel
theorem dX4_turnAt_72 : decode cX4_turnAt 72 = .ok (.aload_n 0, 1) := by decide +kernel
theorem dX4_turnAt_73 : decode cX4_turnAt 73 = .ok (.iconst 0, 1) := by decide +kernel
theorem dX4_turnAt_74 : decode cX4_turnAt 74 = .ok (.iload_n 3, 1) := by decide +kernel
theorem dX4_turnAt_75 : decode cX4_turnAt 75 = .ok (.invokevirtual 113, 3) := by decide +kernel
theorem dX4_turnAt_78 : decode cX4_turnAt 78 = .ok (.istore_n 3, 1) := by decide +kernel
theorem dX4_turnAt_79 : decode cX4_turnAt 79 = .ok (.iinc 4 1, 3) := by decide +kernel
theorem dX4_turnAt_82 : decode cX4_turnAt 82 = .ok (.goto (-16), 3) := by decide +kernel
theorem dX4_turnAt_85 : decode cX4_turnAt 85 = .ok (.iload_n 3, 1) := by decide +kernel
theorem dX4_turnAt_86 : decode cX4_turnAt 86 = .ok (.ireturn, 1) := by decide +kernel
theorem dX4_keep_0 : decode cX4_keep 0 = .ok (.iconst 0, 1) := by decide +kernel
theorem dX4_keep_1 : decode cX4_keep 1 = .ok (.istore_n 1, 1) := by decide +kernel
theorem dX4_keep_2 : decode cX4_keep 2 = .ok (.iload_n 1, 1) := by decide +kernel
theorem dX4_keep_3 : decode cX4_keep 3 = .ok (.bipush 25, 2) := by decide +kernel
theorem dX4_keep_5 : decode cX4_keep 5 = .ok (.if_icmp .ge 29, 3) := by decide +kernel
theorem dX4_keep_8 : decode cX4_keep 8 = .ok (.aload_n 0, 1) := by decide +kernel
theorem dX4_keep_9 : decode cX4_keep 9 = .ok (.getfield 39, 3) := by decide +kernel
theorem dX4_keep_12 : decode cX4_keep 12 = .ok (.bipush 30, 2) := by decide +kernel
theorem dX4_keep_14 : decode cX4_keep 14 = .ok (.aload_n 0, 1) := by decide +kernel
theorem dX4_keep_15 : decode cX4_keep 15 = .ok (.getfield 65, 3) := by decide +kernel
theorem dX4_keep_18 : decode cX4_keep 18 = .ok (.imul, 1) := by decide +kernel
theorem dX4_keep_19 : decode cX4_keep 19 = .ok (.iload_n 1, 1) := by decide +kernel
theorem dX4_keep_20 : decode cX4_keep 20 = .ok (.iadd, 1) := by decide +kernel
theorem dX4_keep_21 : decode cX4_keep 21 = .ok (.aload_n 0, 1) := by decide +kernel
theorem dX4_keep_22 : decode cX4_keep 22 = .ok (.getfield 23, 3) := by decide +kernel
theorem dX4_keep_25 : decode cX4_keep 25 = .ok (.iload_n 1, 1) := by decide +kernel
theorem dX4_keep_26 : decode cX4_keep 26 = .ok (.iaload, 1) := by decide +kernel
theorem dX4_keep_27 : decode cX4_keep 27 = .ok (.iastore, 1) := by decide +kernel
theorem dX4_keep_28 : decode cX4_keep 28 = .ok (.iinc 1 1, 3) := by decide +kernel
theorem dX4_keep_31 : decode cX4_keep 31 = .ok (.goto (-29), 3) := by decide +kernel
theorem dX4_keep_34 : decode cX4_keep 34 = .ok (.iconst 0, 1) := by decide +kernel
theorem dX4_keep_35 : decode cX4_keep 35 = .ok (.istore_n 1, 1) := by decide +kernel
theorem dX4_keep_36 : decode cX4_keep 36 = .ok (.iload_n 1, 1) := by decide +kernel
theorem dX4_keep_37 : decode cX4_keep 37 = .ok (.iconst 4, 1) := by decide +kernel
theorem dX4_keep_38 : decode cX4_keep 38 = .ok (.if_icmp .ge 32, 3) := by decide +kernel
theorem dX4_keep_41 : decode cX4_keep 41 = .ok (.aload_n 0, 1) := by decide +kernel
theorem dX4_keep_42 : decode cX4_keep 42 = .ok (.getfield 39, 3) := by decide +kernel
theorem dX4_keep_45 : decode cX4_keep 45 = .ok (.bipush 30, 2) := by decide +kernel
theorem dX4_keep_47 : decode cX4_keep 47 = .ok (.aload_n 0, 1) := by decide +kernel
theorem dX4_keep_48 : decode cX4_keep 48 = .ok (.getfield 65, 3) := by decide +kernel
theorem dX4_keep_51 : decode cX4_keep 51 = .ok (.imul, 1) := by decide +kernel
theorem dX4_keep_52 : decode cX4_keep 52 = .ok (.bipush 25, 2) := by decide +kernel
theorem dX4_keep_54 : decode cX4_keep 54 = .ok (.iadd, 1) := by decide +kernel
theorem dX4_keep_55 : decode cX4_keep 55 = .ok (.iload_n 1, 1) := by decide +kernel
theorem dX4_keep_56 : decode cX4_keep 56 = .ok (.iadd, 1) := by decide +kernel
theorem dX4_keep_57 : decode cX4_keep 57 = .ok (.aload_n 0, 1) := by decide +kernel
theorem dX4_keep_58 : decode cX4_keep 58 = .ok (.getfield 26, 3) := by decide +kernel
theorem dX4_keep_61 : decode cX4_keep 61 = .ok (.iload_n 1, 1) := by decide +kernel
theorem dX4_keep_62 : decode cX4_keep 62 = .ok (.iaload, 1) := by decide +kernel
theorem dX4_keep_63 : decode cX4_keep 63 = .ok (.iastore, 1) := by decide +kernel
theorem dX4_keep_64 : decode cX4_keep 64 = .ok (.iinc 1 1, 3) := by decide +kernel
theorem dX4_keep_67 : decode cX4_keep 67 = .ok (.goto (-31), 3) := by decide +kernel
theorem dX4_keep_70 : decode cX4_keep 70 = .ok (.aload_n 0, 1) := by decide +kernel
theorem dX4_keep_71 : decode cX4_keep 71 = .ok (.getfield 39, 3) := by decide +kernel
theorem dX4_keep_74 : decode cX4_keep 74 = .ok (.bipush 30, 2) := by decide +kernel
theorem dX4_keep_76 : decode cX4_keep 76 = .ok (.aload_n 0, 1) := by decide +kernel
theorem dX4_keep_77 : decode cX4_keep 77 = .ok (.getfield 65, 3) := by decide +kernel
theorem dX4_keep_80 : decode cX4_keep 80 = .ok (.imul, 1) := by decide +kernel
theorem dX4_keep_81 : decode cX4_keep 81 = .ok (.bipush 30, 2) := by decide +kernel
theorem dX4_keep_83 : decode cX4_keep 83 = .ok (.iadd, 1) := by decide +kernel
theorem dX4_keep_84 : decode cX4_keep 84 = .ok (.iconst 1, 1) := by decide +kernel
theorem dX4_keep_85 : decode cX4_keep 85 = .ok (.isub, 1) := by decide +kernel
theorem dX4_keep_86 : decode cX4_keep 86 = .ok (.aload_n 0, 1) := by decide +kernel
theorem dX4_keep_87 : decode cX4_keep 87 = .ok (.getfield 32, 3) := by decide +kernel
theorem dX4_keep_90 : decode cX4_keep 90 = .ok (.iconst 0, 1) := by decide +kernel
theorem dX4_keep_91 : decode cX4_keep 91 = .ok (.baload, 1) := by decide +kernel
theorem dX4_keep_92 : decode cX4_keep 92 = .ok (.ifCond .eq 7, 3) := by decide +kernel
theorem dX4_keep_95 : decode cX4_keep 95 = .ok (.iconst 1, 1) := by decide +kernel
theorem dX4_keep_96 : decode cX4_keep 96 = .ok (.goto 4, 3) := by decide +kernel
theorem dX4_keep_99 : decode cX4_keep 99 = .ok (.iconst 0, 1) := by decide +kernel
theorem dX4_keep_100 : decode cX4_keep 100 = .ok (.iastore, 1) := by decide +kernel
theorem dX4_keep_101 : decode cX4_keep 101 = .ok (.return_, 1) := by decide +kernel
set_option maxRecDepth 20000 in
theorem ggX4_play_X4_isPlaced : GoodIn wsX4_play wsX4_isPlaced := goodIn_r _ [8, 9, 10, 90, 91, 92, 93, 94, 95, 96, 97, 98, 99, 100, 101, 102, 103, 104, 105] (by decide +kernel) (by decide +kernel)
set_option maxRecDepth 20000 in
theorem gX4_play_X4_isPlaced : GoodIn wsX4_play (wsV RX4 109 RX4 yX4_isPlaced wsX4_isPlaced) := goodIn_app (goodIn_of _ (by decide +kernel)) ggX4_play_X4_isPlaced
set_option maxRecDepth 20000 in
theorem ggX4_play_X4_isTurn : GoodIn wsX4_play wsX4_isTurn := goodIn_r _ [14, 10, 15, 3, 16, 17, 18, 7, 19, 20, 21, 22, 23, 24, 25, 26, 27, 28, 29, 30, 31, 32, 33, 34, 35, 36, 37, 38, 39, 40, 41, 42, 43, 44, 45, 46, 47, 48, 49, 50, 51, 52, 53, 54, 55, 56, 57, 58, 59, 60, 61, 62, 63, 64, 65, 66, 67, 90, 91, 92, 93, 94, 95, 96, 97, 98, 99, 100, 101, 102, 103, 104, 105] (by decide +kernel) (by decide +kernel)
set_option maxRecDepth 20000 in
theorem gX4_play_X4_isTurn : GoodIn wsX4_play (wsV RX4 106 RX4 yX4_isTurn wsX4_isTurn) := goodIn_app (goodIn_of _ (by decide +kernel)) ggX4_play_X4_isTurn
set_option maxRecDepth 20000 in
theorem ggX4_play_X4_goesWell : GoodIn wsX4_play wsX4_goesWell := goodIn_r _ [71, 72, 90, 91, 92, 93, 94, 95, 96, 97, 98, 99, 100, 101, 102, 103, 104, 105] (by decide +kernel) (by decide +kernel)
set_option maxRecDepth 20000 in
theorem gX4_play_X4_goesWell : GoodIn wsX4_play (wsV RX4 68 RX4 yX4_goesWell wsX4_goesWell) := goodIn_app (goodIn_of _ (by decide +kernel)) ggX4_play_X4_goesWell
set_option maxRecDepth 20000 in
theorem ggX4_play_X4_keep : GoodIn wsX4_play wsX4_keep := goodIn_r _ [76, 77, 2, 43, 15, 38, 90, 91, 92, 93, 94, 95, 96, 97, 98, 99, 100, 101, 102, 103, 104, 105] (by decide +kernel) (by decide +kernel)
set_option maxRecDepth 20000 in
theorem gX4_play_X4_keep : GoodIn wsX4_play (wsV RX4 125 RX4 yX4_keep wsX4_keep) := goodIn_app (goodIn_of _ (by decide +kernel)) ggX4_play_X4_keep
set_option maxRecDepth 20000 in
theorem ggX4_play_X4_act : GoodIn wsX4_play wsX4_act := goodIn_r _ [81, 3, 15, 33, 38, 43, 52, 53, 54, 7, 55, 56, 57, 58, 59, 25, 24, 26, 27, 28, 39, 40, 41, 42, 90, 91, 92, 93, 94, 95, 96, 97, 98, 99, 100, 101, 102, 103, 104, 105] (by decide +kernel) (by decide +kernel)
set_option maxRecDepth 20000 in
theorem gX4_play_X4_act : GoodIn wsX4_play (wsV RX4 128 RX4 yX4_act wsX4_act) := goodIn_app (goodIn_of _ (by decide +kernel)) ggX4_play_X4_act
set_option maxRecDepth 20000 in
theorem ggX4_play_X4_judge : GoodIn wsX4_play wsX4_judge := goodIn_r _ [85, 3, 1, 4, 5, 6, 7, 8, 9, 10, 86, 87, 88, 89, 20, 21, 22, 23, 24, 25, 29, 30, 31, 32, 15, 33, 34, 35, 36, 37, 38, 39, 40, 41, 42, 43, 44, 45, 46, 47, 26, 27, 28, 48, 49, 50, 51, 52, 53, 54, 55, 56, 57, 58, 59, 60, 61, 62, 63, 11, 12, 13, 14, 16, 17, 18, 19, 64, 65, 66, 67, 90, 91, 92, 93, 94, 95, 96, 97, 98, 99, 100, 101, 102, 103, 104, 105] (by decide +kernel) (by decide +kernel)
set_option maxRecDepth 20000 in
theorem gX4_play_X4_judge : GoodIn wsX4_play (wsV RX4 116 RX4 yX4_judge wsX4_judge) := goodIn_app (goodIn_of _ (by decide +kernel)) ggX4_play_X4_judge
theorem dX4_play_0 : decode cX4_play 0 = .ok (.aload_n 0, 1) := by decide +kernel
theorem dX4_play_1 : decode cX4_play 1 = .ok (.aload_n 0, 1) := by decide +kernel
theorem dX4_play_2 : decode cX4_play 2 = .ok (.invokevirtual 109, 3) := by decide +kernel
theorem dX4_play_5 : decode cX4_play 5 = .ok (.ifCond .eq 24, 3) := by decide +kernel
theorem dX4_play_8 : decode cX4_play 8 = .ok (.aload_n 0, 1) := by decide +kernel
theorem dX4_play_9 : decode cX4_play 9 = .ok (.getfield 36, 3) := by decide +kernel
theorem dX4_play_12 : decode cX4_play 12 = .ok (.iconst (-1), 1) := by decide +kernel
theorem dX4_play_13 : decode cX4_play 13 = .ok (.if_icmp .ne 16, 3) := by decide +kernel
theorem dX4_play_16 : decode cX4_play 16 = .ok (.aload_n 0, 1) := by decide +kernel
theorem dX4_play_17 : decode cX4_play 17 = .ok (.iconst 0, 1) := by decide +kernel
theorem dX4_play_18 : decode cX4_play 18 = .ok (.iload_n 1, 1) := by decide +kernel
theorem dX4_play_19 : decode cX4_play 19 = .ok (.invokevirtual 106, 3) := by decide +kernel
theorem dX4_play_22 : decode cX4_play 22 = .ok (.ifCond .eq 7, 3) := by decide +kernel
theorem dX4_play_25 : decode cX4_play 25 = .ok (.iconst 0, 1) := by decide +kernel
theorem dX4_play_26 : decode cX4_play 26 = .ok (.goto 4, 3) := by decide +kernel
theorem dX4_play_29 : decode cX4_play 29 = .ok (.iconst 1, 1) := by decide +kernel
theorem dX4_play_30 : decode cX4_play 30 = .ok (.invokevirtual 68, 3) := by decide +kernel
theorem dX4_play_33 : decode cX4_play 33 = .ok (.ifCond .ne 5, 3) := by decide +kernel
theorem dX4_play_36 : decode cX4_play 36 = .ok (.iconst 0, 1) := by decide +kernel
theorem dX4_play_37 : decode cX4_play 37 = .ok (.ireturn, 1) := by decide +kernel
theorem dX4_play_38 : decode cX4_play 38 = .ok (.aload_n 0, 1) := by decide +kernel
theorem dX4_play_39 : decode cX4_play 39 = .ok (.invokevirtual 125, 3) := by decide +kernel
theorem dX4_play_42 : decode cX4_play 42 = .ok (.aload_n 0, 1) := by decide +kernel
theorem dX4_play_43 : decode cX4_play 43 = .ok (.iconst 0, 1) := by decide +kernel
theorem dX4_play_44 : decode cX4_play 44 = .ok (.iload_n 1, 1) := by decide +kernel
theorem dX4_play_45 : decode cX4_play 45 = .ok (.invokevirtual 128, 3) := by decide +kernel
theorem dX4_play_48 : decode cX4_play 48 = .ok (.aload_n 0, 1) := by decide +kernel
theorem dX4_play_49 : decode cX4_play 49 = .ok (.dup, 1) := by decide +kernel
theorem dX4_play_50 : decode cX4_play 50 = .ok (.getfield 65, 3) := by decide +kernel
theorem dX4_play_53 : decode cX4_play 53 = .ok (.iconst 1, 1) := by decide +kernel
theorem dX4_play_54 : decode cX4_play 54 = .ok (.iadd, 1) := by decide +kernel
theorem dX4_play_55 : decode cX4_play 55 = .ok (.putfield 65, 3) := by decide +kernel
theorem dX4_play_58 : decode cX4_play 58 = .ok (.aload_n 0, 1) := by decide +kernel
theorem dX4_play_59 : decode cX4_play 59 = .ok (.invokevirtual 116, 3) := by decide +kernel
theorem dX4_play_62 : decode cX4_play 62 = .ok (.aload_n 0, 1) := by decide +kernel
theorem dX4_play_63 : decode cX4_play 63 = .ok (.iload_n 1, 1) := by decide +kernel
theorem dX4_play_64 : decode cX4_play 64 = .ok (.bipush 100, 2) := by decide +kernel
theorem dX4_play_66 : decode cX4_play 66 = .ok (.irem, 1) := by decide +kernel
theorem dX4_play_67 : decode cX4_play 67 = .ok (.bipush 99, 2) := by decide +kernel
theorem dX4_play_69 : decode cX4_play 69 = .ok (.if_icmp .ne 14, 3) := by decide +kernel
theorem dX4_play_72 : decode cX4_play 72 = .ok (.iconst 1, 1) := by decide +kernel
theorem dX4_play_73 : decode cX4_play 73 = .ok (.aload_n 0, 1) := by decide +kernel
theorem dX4_play_74 : decode cX4_play 74 = .ok (.getfield 29, 3) := by decide +kernel
theorem dX4_play_77 : decode cX4_play 77 = .ok (.iconst 0, 1) := by decide +kernel
theorem dX4_play_78 : decode cX4_play 78 = .ok (.iaload, 1) := by decide +kernel
theorem dX4_play_79 : decode cX4_play 79 = .ok (.isub, 1) := by decide +kernel
theorem dX4_play_80 : decode cX4_play 80 = .ok (.goto 7, 3) := by decide +kernel
theorem dX4_play_83 : decode cX4_play 83 = .ok (.aload_n 0, 1) := by decide +kernel
theorem dX4_play_84 : decode cX4_play 84 = .ok (.getfield 36, 3) := by decide +kernel
theorem dX4_play_87 : decode cX4_play 87 = .ok (.putfield 36, 3) := by decide +kernel
theorem dX4_play_90 : decode cX4_play 90 = .ok (.aload_n 0, 1) := by decide +kernel
theorem dX4_play_91 : decode cX4_play 91 = .ok (.getfield 36, 3) := by decide +kernel
theorem dX4_play_94 : decode cX4_play 94 = .ok (.ireturn, 1) := by decide +kernel
set_option maxRecDepth 20000 in
theorem ggX4_takeBack_X4_goesWell : GoodIn wsX4_takeBack wsX4_goesWell := goodIn_r _ [12, 13, 14, 15, 16, 17, 18, 19, 20, 21, 22, 23, 24, 25, 26, 27, 28, 29] (by decide +kernel) (by decide +kernel)
set_option maxRecDepth 20000 in
theorem gX4_takeBack_X4_goesWell : GoodIn wsX4_takeBack (wsV RX4 68 RX4 yX4_goesWell wsX4_goesWell) := goodIn_app (goodIn_of _ (by decide +kernel)) ggX4_takeBack_X4_goesWell
theorem dX4_takeBack_0 : decode cX4_takeBack 0 = .ok (.aload_n 0, 1) := by decide +kernel
theorem dX4_takeBack_1 : decode cX4_takeBack 1 = .ok (.aload_n 0, 1) := by decide +kernel
theorem dX4_takeBack_2 : decode cX4_takeBack 2 = .ok (.getfield 65, 3) := by decide +kernel
theorem dX4_takeBack_5 : decode cX4_takeBack 5 = .ok (.ifCond .ne 7, 3) := by decide +kernel
theorem dX4_takeBack_8 : decode cX4_takeBack 8 = .ok (.iconst 1, 1) := by decide +kernel
theorem dX4_takeBack_9 : decode cX4_takeBack 9 = .ok (.goto 4, 3) := by decide +kernel
theorem dX4_takeBack_12 : decode cX4_takeBack 12 = .ok (.iconst 0, 1) := by decide +kernel
theorem dX4_takeBack_13 : decode cX4_takeBack 13 = .ok (.invokevirtual 68, 3) := by decide +kernel
theorem dX4_takeBack_16 : decode cX4_takeBack 16 = .ok (.ifCond .ne 5, 3) := by decide +kernel
theorem dX4_takeBack_19 : decode cX4_takeBack 19 = .ok (.iconst 0, 1) := by decide +kernel
theorem dX4_takeBack_20 : decode cX4_takeBack 20 = .ok (.ireturn, 1) := by decide +kernel
theorem dX4_takeBack_21 : decode cX4_takeBack 21 = .ok (.aload_n 0, 1) := by decide +kernel
theorem dX4_takeBack_22 : decode cX4_takeBack 22 = .ok (.dup, 1) := by decide +kernel
theorem dX4_takeBack_23 : decode cX4_takeBack 23 = .ok (.getfield 65, 3) := by decide +kernel
theorem dX4_takeBack_26 : decode cX4_takeBack 26 = .ok (.iconst 1, 1) := by decide +kernel
theorem dX4_takeBack_27 : decode cX4_takeBack 27 = .ok (.isub, 1) := by decide +kernel
theorem dX4_takeBack_28 : decode cX4_takeBack 28 = .ok (.putfield 65, 3) := by decide +kernel
theorem dX4_takeBack_31 : decode cX4_takeBack 31 = .ok (.iconst 0, 1) := by decide +kernel
theorem dX4_takeBack_32 : decode cX4_takeBack 32 = .ok (.istore_n 1, 1) := by decide +kernel
theorem dX4_takeBack_33 : decode cX4_takeBack 33 = .ok (.iload_n 1, 1) := by decide +kernel
theorem dX4_takeBack_34 : decode cX4_takeBack 34 = .ok (.bipush 25, 2) := by decide +kernel
theorem dX4_takeBack_36 : decode cX4_takeBack 36 = .ok (.if_icmp .ge 29, 3) := by decide +kernel
theorem dX4_takeBack_39 : decode cX4_takeBack 39 = .ok (.aload_n 0, 1) := by decide +kernel
theorem dX4_takeBack_40 : decode cX4_takeBack 40 = .ok (.getfield 23, 3) := by decide +kernel
theorem dX4_takeBack_43 : decode cX4_takeBack 43 = .ok (.iload_n 1, 1) := by decide +kernel
theorem dX4_takeBack_44 : decode cX4_takeBack 44 = .ok (.aload_n 0, 1) := by decide +kernel
theorem dX4_takeBack_45 : decode cX4_takeBack 45 = .ok (.getfield 39, 3) := by decide +kernel
theorem dX4_takeBack_48 : decode cX4_takeBack 48 = .ok (.bipush 30, 2) := by decide +kernel
theorem dX4_takeBack_50 : decode cX4_takeBack 50 = .ok (.aload_n 0, 1) := by decide +kernel
theorem dX4_takeBack_51 : decode cX4_takeBack 51 = .ok (.getfield 65, 3) := by decide +kernel
theorem dX4_takeBack_54 : decode cX4_takeBack 54 = .ok (.imul, 1) := by decide +kernel
theorem dX4_takeBack_55 : decode cX4_takeBack 55 = .ok (.iload_n 1, 1) := by decide +kernel
theorem dX4_takeBack_56 : decode cX4_takeBack 56 = .ok (.iadd, 1) := by decide +kernel
theorem dX4_takeBack_57 : decode cX4_takeBack 57 = .ok (.iaload, 1) := by decide +kernel
theorem dX4_takeBack_58 : decode cX4_takeBack 58 = .ok (.iastore, 1) := by decide +kernel
theorem dX4_takeBack_59 : decode cX4_takeBack 59 = .ok (.iinc 1 1, 3) := by decide +kernel
theorem dX4_takeBack_62 : decode cX4_takeBack 62 = .ok (.goto (-29), 3) := by decide +kernel
theorem dX4_takeBack_65 : decode cX4_takeBack 65 = .ok (.iconst 0, 1) := by decide +kernel
theorem dX4_takeBack_66 : decode cX4_takeBack 66 = .ok (.istore_n 1, 1) := by decide +kernel
theorem dX4_takeBack_67 : decode cX4_takeBack 67 = .ok (.iload_n 1, 1) := by decide +kernel
theorem dX4_takeBack_68 : decode cX4_takeBack 68 = .ok (.iconst 4, 1) := by decide +kernel
theorem dX4_takeBack_69 : decode cX4_takeBack 69 = .ok (.if_icmp .ge 32, 3) := by decide +kernel
theorem dX4_takeBack_72 : decode cX4_takeBack 72 = .ok (.aload_n 0, 1) := by decide +kernel
theorem dX4_takeBack_73 : decode cX4_takeBack 73 = .ok (.getfield 26, 3) := by decide +kernel
theorem dX4_takeBack_76 : decode cX4_takeBack 76 = .ok (.iload_n 1, 1) := by decide +kernel
theorem dX4_takeBack_77 : decode cX4_takeBack 77 = .ok (.aload_n 0, 1) := by decide +kernel
theorem dX4_takeBack_78 : decode cX4_takeBack 78 = .ok (.getfield 39, 3) := by decide +kernel
theorem dX4_takeBack_81 : decode cX4_takeBack 81 = .ok (.bipush 30, 2) := by decide +kernel
theorem dX4_takeBack_83 : decode cX4_takeBack 83 = .ok (.aload_n 0, 1) := by decide +kernel
theorem dX4_takeBack_84 : decode cX4_takeBack 84 = .ok (.getfield 65, 3) := by decide +kernel
theorem dX4_takeBack_87 : decode cX4_takeBack 87 = .ok (.imul, 1) := by decide +kernel
theorem dX4_takeBack_88 : decode cX4_takeBack 88 = .ok (.bipush 25, 2) := by decide +kernel
theorem dX4_takeBack_90 : decode cX4_takeBack 90 = .ok (.iadd, 1) := by decide +kernel
theorem dX4_takeBack_91 : decode cX4_takeBack 91 = .ok (.iload_n 1, 1) := by decide +kernel
theorem dX4_takeBack_92 : decode cX4_takeBack 92 = .ok (.iadd, 1) := by decide +kernel
theorem dX4_takeBack_93 : decode cX4_takeBack 93 = .ok (.iaload, 1) := by decide +kernel
theorem dX4_takeBack_94 : decode cX4_takeBack 94 = .ok (.iastore, 1) := by decide +kernel
theorem dX4_takeBack_95 : decode cX4_takeBack 95 = .ok (.iinc 1 1, 3) := by decide +kernel
theorem dX4_takeBack_98 : decode cX4_takeBack 98 = .ok (.goto (-31), 3) := by decide +kernel
theorem dX4_takeBack_101 : decode cX4_takeBack 101 = .ok (.aload_n 0, 1) := by decide +kernel
theorem dX4_takeBack_102 : decode cX4_takeBack 102 = .ok (.getfield 32, 3) := by decide +kernel
theorem dX4_takeBack_105 : decode cX4_takeBack 105 = .ok (.iconst 0, 1) := by decide +kernel
theorem dX4_takeBack_106 : decode cX4_takeBack 106 = .ok (.aload_n 0, 1) := by decide +kernel
theorem dX4_takeBack_107 : decode cX4_takeBack 107 = .ok (.getfield 39, 3) := by decide +kernel
theorem dX4_takeBack_110 : decode cX4_takeBack 110 = .ok (.bipush 30, 2) := by decide +kernel
theorem dX4_takeBack_112 : decode cX4_takeBack 112 = .ok (.aload_n 0, 1) := by decide +kernel
theorem dX4_takeBack_113 : decode cX4_takeBack 113 = .ok (.getfield 65, 3) := by decide +kernel
theorem dX4_takeBack_116 : decode cX4_takeBack 116 = .ok (.imul, 1) := by decide +kernel
theorem dX4_takeBack_117 : decode cX4_takeBack 117 = .ok (.bipush 30, 2) := by decide +kernel
theorem dX4_takeBack_119 : decode cX4_takeBack 119 = .ok (.iadd, 1) := by decide +kernel
theorem dX4_takeBack_120 : decode cX4_takeBack 120 = .ok (.iconst 1, 1) := by decide +kernel
theorem dX4_takeBack_121 : decode cX4_takeBack 121 = .ok (.isub, 1) := by decide +kernel
theorem dX4_takeBack_122 : decode cX4_takeBack 122 = .ok (.iaload, 1) := by decide +kernel
theorem dX4_takeBack_123 : decode cX4_takeBack 123 = .ok (.iconst 1, 1) := by decide +kernel
theorem dX4_takeBack_124 : decode cX4_takeBack 124 = .ok (.if_icmp .ne 7, 3) := by decide +kernel
theorem dX4_takeBack_127 : decode cX4_takeBack 127 = .ok (.iconst 1, 1) := by decide +kernel
theorem dX4_takeBack_128 : decode cX4_takeBack 128 = .ok (.goto 4, 3) := by decide +kernel
theorem dX4_takeBack_131 : decode cX4_takeBack 131 = .ok (.iconst 0, 1) := by decide +kernel
theorem dX4_takeBack_132 : decode cX4_takeBack 132 = .ok (.bastore, 1) := by decide +kernel
theorem dX4_takeBack_133 : decode cX4_takeBack 133 = .ok (.aload_n 0, 1) := by decide +kernel
theorem dX4_takeBack_134 : decode cX4_takeBack 134 = .ok (.getfield 29, 3) := by decide +kernel
theorem dX4_takeBack_137 : decode cX4_takeBack 137 = .ok (.iconst 0, 1) := by decide +kernel
theorem dX4_takeBack_138 : decode cX4_takeBack 138 = .ok (.iconst 1, 1) := by decide +kernel
theorem dX4_takeBack_139 : decode cX4_takeBack 139 = .ok (.aload_n 0, 1) := by decide +kernel
theorem dX4_takeBack_140 : decode cX4_takeBack 140 = .ok (.getfield 29, 3) := by decide +kernel
theorem dX4_takeBack_143 : decode cX4_takeBack 143 = .ok (.iconst 0, 1) := by decide +kernel
theorem dX4_takeBack_144 : decode cX4_takeBack 144 = .ok (.iaload, 1) := by decide +kernel
theorem dX4_takeBack_145 : decode cX4_takeBack 145 = .ok (.isub, 1) := by decide +kernel
theorem dX4_takeBack_146 : decode cX4_takeBack 146 = .ok (.iastore, 1) := by decide +kernel
theorem dX4_takeBack_147 : decode cX4_takeBack 147 = .ok (.aload_n 0, 1) := by decide +kernel
theorem dX4_takeBack_148 : decode cX4_takeBack 148 = .ok (.iconst (-1), 1) := by decide +kernel
theorem dX4_takeBack_149 : decode cX4_takeBack 149 = .ok (.putfield 36, 3) := by decide +kernel
theorem dX4_takeBack_152 : decode cX4_takeBack 152 = .ok (.aload_n 0, 1) := by decide +kernel
theorem dX4_takeBack_153 : decode cX4_takeBack 153 = .ok (.getfield 65, 3) := by decide +kernel
theorem dX4_takeBack_156 : decode cX4_takeBack 156 = .ok (.ireturn, 1) := by decide +kernel
theorem dX4_open_0 : decode cX4_open 0 = .ok (.aload_n 0, 1) := by decide +kernel
theorem dX4_open_1 : decode cX4_open 1 = .ok (.getfield 42, 3) := by decide +kernel
theorem dX4_open_4 : decode cX4_open 4 = .ok (.iload_n 1, 1) := by decide +kernel
theorem dX4_open_5 : decode cX4_open 5 = .ok (.iconst (-1), 1) := by decide +kernel
theorem dX4_open_6 : decode cX4_open 6 = .ok (.iastore, 1) := by decide +kernel
theorem dX4_open_7 : decode cX4_open 7 = .ok (.aload_n 0, 1) := by decide +kernel
theorem dX4_open_8 : decode cX4_open 8 = .ok (.getfield 45, 3) := by decide +kernel
theorem dX4_open_11 : decode cX4_open 11 = .ok (.iload_n 1, 1) := by decide +kernel
theorem dX4_open_12 : decode cX4_open 12 = .ok (.bipush (-2), 2) := by decide +kernel
theorem dX4_open_14 : decode cX4_open 14 = .ok (.iastore, 1) := by decide +kernel
theorem dX4_open_15 : decode cX4_open 15 = .ok (.return_, 1) := by decide +kernel
theorem dX4_take_0 : decode cX4_take 0 = .ok (.iload_n 2, 1) := by decide +kernel
theorem dX4_take_1 : decode cX4_take 1 = .ok (.aload_n 0, 1) := by decide +kernel
theorem dX4_take_2 : decode cX4_take 2 = .ok (.getfield 45, 3) := by decide +kernel
theorem dX4_take_5 : decode cX4_take 5 = .ok (.iload_n 1, 1) := by decide +kernel
theorem dX4_take_6 : decode cX4_take 6 = .ok (.iaload, 1) := by decide +kernel
theorem dX4_take_7 : decode cX4_take 7 = .ok (.if_icmp .le 31, 3) := by decide +kernel
theorem dX4_take_10 : decode cX4_take 10 = .ok (.aload_n 0, 1) := by decide +kernel
theorem dX4_take_11 : decode cX4_take 11 = .ok (.getfield 45, 3) := by decide +kernel
theorem dX4_take_14 : decode cX4_take 14 = .ok (.iload_n 1, 1) := by decide +kernel
theorem dX4_take_15 : decode cX4_take 15 = .ok (.iload_n 2, 1) := by decide +kernel
theorem dX4_take_16 : decode cX4_take 16 = .ok (.iastore, 1) := by decide +kernel
theorem dX4_take_17 : decode cX4_take 17 = .ok (.aload_n 0, 1) := by decide +kernel
theorem dX4_take_18 : decode cX4_take 18 = .ok (.iload_n 1, 1) := by decide +kernel
theorem dX4_take_19 : decode cX4_take 19 = .ok (.ifCond .ne 12, 3) := by decide +kernel
theorem dX4_take_22 : decode cX4_take 22 = .ok (.aload_n 0, 1) := by decide +kernel
theorem dX4_take_23 : decode cX4_take 23 = .ok (.getfield 42, 3) := by decide +kernel
theorem dX4_take_26 : decode cX4_take 26 = .ok (.iconst 0, 1) := by decide +kernel
theorem dX4_take_27 : decode cX4_take 27 = .ok (.iaload, 1) := by decide +kernel
theorem dX4_take_28 : decode cX4_take 28 = .ok (.goto 7, 3) := by decide +kernel
theorem dX4_take_31 : decode cX4_take 31 = .ok (.aload_n 0, 1) := by decide +kernel
theorem dX4_take_32 : decode cX4_take 32 = .ok (.getfield 132, 3) := by decide +kernel
theorem dX4_take_35 : decode cX4_take 35 = .ok (.putfield 132, 3) := by decide +kernel
theorem dX4_take_38 : decode cX4_take 38 = .ok (.return_, 1) := by decide +kernel
set_option maxRecDepth 20000 in
theorem ggX4_look_X4_open : GoodIn wsX4_look wsX4_open := goodIn_r _ [7, 2, 1, 84, 85, 86, 87, 88, 89, 90, 91, 92, 93, 94, 95, 96, 97, 98, 99] (by decide +kernel) (by decide +kernel)
set_option maxRecDepth 20000 in
theorem gX4_look_X4_open : GoodIn wsX4_look (wsV RX4 135 RX4 yX4_open wsX4_open) := goodIn_app (goodIn_of _ (by decide +kernel)) ggX4_look_X4_open
set_option maxRecDepth 20000 in
theorem ggX4_look_X4_nextTurn : GoodIn wsX4_look wsX4_nextTurn := goodIn_r _ [11, 12, 13, 14, 15, 6, 16, 17, 18, 19, 20, 21, 22, 23, 24, 25, 26, 27, 28, 29, 30, 31, 32, 33, 34, 35, 36, 37, 38, 39, 40, 41, 42, 43, 44, 45, 46, 47, 48, 49, 50, 51, 52, 53, 54, 55, 56, 57, 58, 59, 60, 61, 62, 63, 64, 65, 66, 67, 68, 69, 70, 84, 85, 86, 87, 88, 89, 90, 91, 92, 93, 94, 95, 96, 97, 98, 99] (by decide +kernel) (by decide +kernel)
set_option maxRecDepth 20000 in
theorem gX4_look_X4_nextTurn : GoodIn wsX4_look (wsV RX4 113 RX4 yX4_nextTurn wsX4_nextTurn) := goodIn_app (goodIn_of _ (by decide +kernel)) ggX4_look_X4_nextTurn
set_option maxRecDepth 20000 in
theorem ggX4_look_X4_take : GoodIn wsX4_look wsX4_take := goodIn_r _ [74, 1, 2, 75, 84, 85, 86, 87, 88, 89, 90, 91, 92, 93, 94, 95, 96, 97, 98, 99] (by decide +kernel) (by decide +kernel)
set_option maxRecDepth 20000 in
theorem gX4_look_X4_take : GoodIn wsX4_look (wsV RX4 139 RX4 yX4_take wsX4_take) := goodIn_app (goodIn_of _ (by decide +kernel)) ggX4_look_X4_take
set_option maxRecDepth 20000 in
theorem ggX4_look_X4_copy : GoodIn wsX4_look wsX4_copy := goodIn_r _ [79, 35, 23, 24, 30, 84, 85, 86, 87, 88, 89, 90, 91, 92, 93, 94, 95, 96, 97, 98, 99] (by decide +kernel) (by decide +kernel)
set_option maxRecDepth 20000 in
theorem gX4_look_X4_copy : GoodIn wsX4_look (wsV RX4 142 RX4 yX4_copy wsX4_copy) := goodIn_app (goodIn_of _ (by decide +kernel)) ggX4_look_X4_copy
set_option maxRecDepth 20000 in
theorem ggX4_look_X4_act : GoodIn wsX4_look wsX4_act := goodIn_r _ [83, 24, 23, 25, 30, 35, 47, 48, 49, 6, 50, 51, 52, 53, 54, 18, 17, 40, 41, 42, 31, 32, 33, 34, 84, 85, 86, 87, 88, 89, 90, 91, 92, 93, 94, 95, 96, 97, 98, 99] (by decide +kernel) (by decide +kernel)
set_option maxRecDepth 20000 in
theorem gX4_look_X4_act : GoodIn wsX4_look (wsV RX4 128 RX4 yX4_act wsX4_act) := goodIn_app (goodIn_of _ (by decide +kernel)) ggX4_look_X4_act
theorem dX4_look_0 : decode cX4_look 0 = .ok (.iconst 0, 1) := by decide +kernel
theorem dX4_look_1 : decode cX4_look 1 = .ok (.istore_n 2, 1) := by decide +kernel
theorem dX4_look_2 : decode cX4_look 2 = .ok (.aload_n 0, 1) := by decide +kernel
theorem dX4_look_3 : decode cX4_look 3 = .ok (.iconst 0, 1) := by decide +kernel
theorem dX4_look_4 : decode cX4_look 4 = .ok (.invokevirtual 135, 3) := by decide +kernel
theorem dX4_look_7 : decode cX4_look 7 = .ok (.aload_n 0, 1) := by decide +kernel
theorem dX4_look_8 : decode cX4_look 8 = .ok (.getfield 45, 3) := by decide +kernel
theorem dX4_look_11 : decode cX4_look 11 = .ok (.iload_n 2, 1) := by decide +kernel
theorem dX4_look_12 : decode cX4_look 12 = .ok (.iaload, 1) := by decide +kernel
theorem dX4_look_13 : decode cX4_look 13 = .ok (.iconst 1, 1) := by decide +kernel
theorem dX4_look_14 : decode cX4_look 14 = .ok (.if_icmp .ne 7, 3) := by decide +kernel
theorem dX4_look_17 : decode cX4_look 17 = .ok (.iconst (-1), 1) := by decide +kernel
theorem dX4_look_18 : decode cX4_look 18 = .ok (.goto 14, 3) := by decide +kernel
theorem dX4_look_21 : decode cX4_look 21 = .ok (.aload_n 0, 1) := by decide +kernel
theorem dX4_look_22 : decode cX4_look 22 = .ok (.iload_n 2, 1) := by decide +kernel
theorem dX4_look_23 : decode cX4_look 23 = .ok (.aload_n 0, 1) := by decide +kernel
theorem dX4_look_24 : decode cX4_look 24 = .ok (.getfield 42, 3) := by decide +kernel
theorem dX4_look_27 : decode cX4_look 27 = .ok (.iload_n 2, 1) := by decide +kernel
theorem dX4_look_28 : decode cX4_look 28 = .ok (.iaload, 1) := by decide +kernel
theorem dX4_look_29 : decode cX4_look 29 = .ok (.invokevirtual 113, 3) := by decide +kernel
theorem dX4_look_32 : decode cX4_look 32 = .ok (.istore_n 3, 1) := by decide +kernel
theorem dX4_look_33 : decode cX4_look 33 = .ok (.iload_n 3, 1) := by decide +kernel
theorem dX4_look_34 : decode cX4_look 34 = .ok (.iconst (-1), 1) := by decide +kernel
theorem dX4_look_35 : decode cX4_look 35 = .ok (.if_icmp .eq 17, 3) := by decide +kernel
theorem dX4_look_38 : decode cX4_look 38 = .ok (.iload_n 2, 1) := by decide +kernel
theorem dX4_look_39 : decode cX4_look 39 = .ok (.iload_n 1, 1) := by decide +kernel
theorem dX4_look_40 : decode cX4_look 40 = .ok (.if_icmp .ne 12, 3) := by decide +kernel
theorem dX4_look_43 : decode cX4_look 43 = .ok (.aload_n 0, 1) := by decide +kernel
theorem dX4_look_44 : decode cX4_look 44 = .ok (.getfield 45, 3) := by decide +kernel
theorem dX4_look_47 : decode cX4_look 47 = .ok (.iload_n 2, 1) := by decide +kernel
theorem dX4_look_48 : decode cX4_look 48 = .ok (.iconst 0, 1) := by decide +kernel
theorem dX4_look_49 : decode cX4_look 49 = .ok (.iastore, 1) := by decide +kernel
theorem dX4_look_50 : decode cX4_look 50 = .ok (.iconst (-1), 1) := by decide +kernel
theorem dX4_look_51 : decode cX4_look 51 = .ok (.istore_n 3, 1) := by decide +kernel
theorem dX4_look_52 : decode cX4_look 52 = .ok (.iload_n 3, 1) := by decide +kernel
theorem dX4_look_53 : decode cX4_look 53 = .ok (.iconst (-1), 1) := by decide +kernel
theorem dX4_look_54 : decode cX4_look 54 = .ok (.if_icmp .eq 55, 3) := by decide +kernel
theorem dX4_look_57 : decode cX4_look 57 = .ok (.aload_n 0, 1) := by decide +kernel
theorem dX4_look_58 : decode cX4_look 58 = .ok (.getfield 42, 3) := by decide +kernel
theorem dX4_look_61 : decode cX4_look 61 = .ok (.iload_n 2, 1) := by decide +kernel
theorem dX4_look_62 : decode cX4_look 62 = .ok (.iload_n 3, 1) := by decide +kernel
theorem dX4_look_63 : decode cX4_look 63 = .ok (.iastore, 1) := by decide +kernel
theorem dX4_look_64 : decode cX4_look 64 = .ok (.iload_n 3, 1) := by decide +kernel
theorem dX4_look_65 : decode cX4_look 65 = .ok (.bipush 100, 2) := by decide +kernel
theorem dX4_look_67 : decode cX4_look 67 = .ok (.irem, 1) := by decide +kernel
theorem dX4_look_68 : decode cX4_look 68 = .ok (.bipush 99, 2) := by decide +kernel
theorem dX4_look_70 : decode cX4_look 70 = .ok (.if_icmp .ne 12, 3) := by decide +kernel
theorem dX4_look_73 : decode cX4_look 73 = .ok (.aload_n 0, 1) := by decide +kernel
theorem dX4_look_74 : decode cX4_look 74 = .ok (.iload_n 2, 1) := by decide +kernel
theorem dX4_look_75 : decode cX4_look 75 = .ok (.iconst 1, 1) := by decide +kernel
theorem dX4_look_76 : decode cX4_look 76 = .ok (.invokevirtual 139, 3) := by decide +kernel
theorem dX4_look_79 : decode cX4_look 79 = .ok (.goto 71, 3) := by decide +kernel
theorem dX4_look_82 : decode cX4_look 82 = .ok (.aload_n 0, 1) := by decide +kernel
theorem dX4_look_83 : decode cX4_look 83 = .ok (.iload_n 2, 1) := by decide +kernel
theorem dX4_look_84 : decode cX4_look 84 = .ok (.iload_n 2, 1) := by decide +kernel
theorem dX4_look_85 : decode cX4_look 85 = .ok (.iconst 1, 1) := by decide +kernel
theorem dX4_look_86 : decode cX4_look 86 = .ok (.iadd, 1) := by decide +kernel
theorem dX4_look_87 : decode cX4_look 87 = .ok (.invokevirtual 142, 3) := by decide +kernel
theorem dX4_look_90 : decode cX4_look 90 = .ok (.aload_n 0, 1) := by decide +kernel
theorem dX4_look_91 : decode cX4_look 91 = .ok (.iload_n 2, 1) := by decide +kernel
theorem dX4_look_92 : decode cX4_look 92 = .ok (.iconst 1, 1) := by decide +kernel
theorem dX4_look_93 : decode cX4_look 93 = .ok (.iadd, 1) := by decide +kernel
theorem dX4_look_94 : decode cX4_look 94 = .ok (.iload_n 3, 1) := by decide +kernel
theorem dX4_look_95 : decode cX4_look 95 = .ok (.invokevirtual 128, 3) := by decide +kernel
theorem dX4_look_98 : decode cX4_look 98 = .ok (.iinc 2 1, 3) := by decide +kernel
theorem dX4_look_101 : decode cX4_look 101 = .ok (.aload_n 0, 1) := by decide +kernel
theorem dX4_look_102 : decode cX4_look 102 = .ok (.iload_n 2, 1) := by decide +kernel
theorem dX4_look_103 : decode cX4_look 103 = .ok (.invokevirtual 135, 3) := by decide +kernel
theorem dX4_look_106 : decode cX4_look 106 = .ok (.goto 44, 3) := by decide +kernel
theorem dX4_look_109 : decode cX4_look 109 = .ok (.aload_n 0, 1) := by decide +kernel
theorem dX4_look_110 : decode cX4_look 110 = .ok (.getfield 45, 3) := by decide +kernel
theorem dX4_look_113 : decode cX4_look 113 = .ok (.iload_n 2, 1) := by decide +kernel
theorem dX4_look_114 : decode cX4_look 114 = .ok (.iaload, 1) := by decide +kernel
theorem dX4_look_115 : decode cX4_look 115 = .ok (.bipush (-2), 2) := by decide +kernel
theorem dX4_look_117 : decode cX4_look 117 = .ok (.if_icmp .ne 7, 3) := by decide +kernel
theorem dX4_look_120 : decode cX4_look 120 = .ok (.iconst (-1), 1) := by decide +kernel
theorem dX4_look_121 : decode cX4_look 121 = .ok (.goto 9, 3) := by decide +kernel
theorem dX4_look_124 : decode cX4_look 124 = .ok (.aload_n 0, 1) := by decide +kernel
theorem dX4_look_125 : decode cX4_look 125 = .ok (.getfield 45, 3) := by decide +kernel
theorem dX4_look_128 : decode cX4_look 128 = .ok (.iload_n 2, 1) := by decide +kernel
theorem dX4_look_129 : decode cX4_look 129 = .ok (.iaload, 1) := by decide +kernel
theorem dX4_look_130 : decode cX4_look 130 = .ok (.istore 4, 2) := by decide +kernel
theorem dX4_look_132 : decode cX4_look 132 = .ok (.iload_n 2, 1) := by decide +kernel
theorem dX4_look_133 : decode cX4_look 133 = .ok (.ifCond .ne 6, 3) := by decide +kernel
theorem dX4_look_136 : decode cX4_look 136 = .ok (.iload 4, 2) := by decide +kernel
theorem dX4_look_138 : decode cX4_look 138 = .ok (.ireturn, 1) := by decide +kernel
theorem dX4_look_139 : decode cX4_look 139 = .ok (.iinc 2 (-1), 3) := by decide +kernel
theorem dX4_look_142 : decode cX4_look 142 = .ok (.aload_n 0, 1) := by decide +kernel
theorem dX4_look_143 : decode cX4_look 143 = .ok (.iload_n 2, 1) := by decide +kernel
theorem dX4_look_144 : decode cX4_look 144 = .ok (.iload 4, 2) := by decide +kernel
theorem dX4_look_146 : decode cX4_look 146 = .ok (.ineg, 1) := by decide +kernel
theorem dX4_look_147 : decode cX4_look 147 = .ok (.invokevirtual 139, 3) := by decide +kernel
theorem dX4_look_150 : decode cX4_look 150 = .ok (.goto (-143), 3) := by decide +kernel
set_option maxRecDepth 20000 in
theorem ggX4_canLook_X4_isPlaced : GoodIn wsX4_canLook wsX4_isPlaced := goodIn_r _ [6, 7, 8, 15, 16, 17, 18, 19, 20, 21, 22, 23, 24, 25, 26, 27, 28, 29, 30] (by decide +kernel) (by decide +kernel)
set_option maxRecDepth 20000 in
theorem gX4_canLook_X4_isPlaced : GoodIn wsX4_canLook (wsV RX4 109 RX4 yX4_isPlaced wsX4_isPlaced) := goodIn_app (goodIn_of _ (by decide +kernel)) ggX4_canLook_X4_isPlaced
set_option maxRecDepth 20000 in
theorem ggX4_canLook_X4_cells : GoodIn wsX4_canLook wsX4_cells := goodIn_r _ [12, 13, 14, 15, 16, 17, 18, 19, 20, 21, 22, 23, 24, 25, 26, 27, 28, 29, 30] (by decide +kernel) (by decide +kernel)
set_option maxRecDepth 20000 in
theorem gX4_canLook_X4_cells : GoodIn wsX4_canLook (wsV RX4 54 RX4 yX4_cells wsX4_cells) := goodIn_app (goodIn_of _ (by decide +kernel)) ggX4_canLook_X4_cells
theorem dX4_canLook_0 : decode cX4_canLook 0 = .ok (.aload_n 0, 1) := by decide +kernel
theorem dX4_canLook_1 : decode cX4_canLook 1 = .ok (.invokevirtual 109, 3) := by decide +kernel
theorem dX4_canLook_4 : decode cX4_canLook 4 = .ok (.ifCond .eq 29, 3) := by decide +kernel
theorem dX4_canLook_7 : decode cX4_canLook 7 = .ok (.aload_n 0, 1) := by decide +kernel
theorem dX4_canLook_8 : decode cX4_canLook 8 = .ok (.getfield 36, 3) := by decide +kernel
theorem dX4_canLook_11 : decode cX4_canLook 11 = .ok (.iconst (-1), 1) := by decide +kernel
theorem dX4_canLook_12 : decode cX4_canLook 12 = .ok (.if_icmp .ne 21, 3) := by decide +kernel
theorem dX4_canLook_15 : decode cX4_canLook 15 = .ok (.iload_n 1, 1) := by decide +kernel
theorem dX4_canLook_16 : decode cX4_canLook 16 = .ok (.iconst 3, 1) := by decide +kernel
theorem dX4_canLook_17 : decode cX4_canLook 17 = .ok (.if_icmp .lt 12, 3) := by decide +kernel
theorem dX4_canLook_20 : decode cX4_canLook 20 = .ok (.aload_n 0, 1) := by decide +kernel
theorem dX4_canLook_21 : decode cX4_canLook 21 = .ok (.invokevirtual 54, 3) := by decide +kernel
theorem dX4_canLook_24 : decode cX4_canLook 24 = .ok (.bipush 8, 2) := by decide +kernel
theorem dX4_canLook_26 : decode cX4_canLook 26 = .ok (.if_icmp .gt 7, 3) := by decide +kernel
theorem dX4_canLook_29 : decode cX4_canLook 29 = .ok (.iconst 1, 1) := by decide +kernel
theorem dX4_canLook_30 : decode cX4_canLook 30 = .ok (.goto 4, 3) := by decide +kernel
theorem dX4_canLook_33 : decode cX4_canLook 33 = .ok (.iconst 0, 1) := by decide +kernel
theorem dX4_canLook_34 : decode cX4_canLook 34 = .ok (.ireturn, 1) := by decide +kernel
set_option maxRecDepth 20000 in
theorem ggX4_worth_X4_in : GoodIn wsX4_worth wsX4_in := goodIn_r _ [4] (by decide +kernel) (by decide +kernel)
set_option maxRecDepth 20000 in
theorem gX4_worth_X4_in : GoodIn wsX4_worth (va_wsS RX4 58 yX4_in wsX4_in) := goodIn_app (goodIn_of _ (by decide +kernel)) ggX4_worth_X4_in
set_option maxRecDepth 20000 in
theorem ggX4_worth_X4_canLook : GoodIn wsX4_worth wsX4_canLook := goodIn_r _ [8, 9, 10, 11, 12, 3, 13, 14, 15, 16, 17, 18, 19, 20, 21, 103, 104, 105, 106, 107, 108, 109, 110, 111, 112, 113, 114, 115, 116, 117, 118] (by decide +kernel) (by decide +kernel)
set_option maxRecDepth 20000 in
theorem gX4_worth_X4_canLook : GoodIn wsX4_worth (wsV RX4 145 RX4 yX4_canLook wsX4_canLook) := goodIn_app (goodIn_of _ (by decide +kernel)) ggX4_worth_X4_canLook
set_option maxRecDepth 20000 in
theorem ggX4_worth_X4_goesWell : GoodIn wsX4_worth wsX4_goesWell := goodIn_r _ [25, 26, 103, 104, 105, 106, 107, 108, 109, 110, 111, 112, 113, 114, 115, 116, 117, 118] (by decide +kernel) (by decide +kernel)
set_option maxRecDepth 20000 in
theorem gX4_worth_X4_goesWell : GoodIn wsX4_worth (wsV RX4 68 RX4 yX4_goesWell wsX4_goesWell) := goodIn_app (goodIn_of _ (by decide +kernel)) ggX4_worth_X4_goesWell
set_option maxRecDepth 20000 in
theorem ggX4_worth_X4_look : GoodIn wsX4_worth wsX4_look := goodIn_r _ [30, 31, 32, 33, 34, 35, 3, 36, 37, 38, 39, 40, 15, 16, 17, 18, 19, 20, 21, 41, 42, 43, 44, 45, 46, 47, 48, 49, 50, 51, 52, 53, 54, 55, 56, 57, 58, 59, 60, 61, 1, 2, 4, 62, 63, 64, 65, 66, 67, 68, 69, 70, 71, 72, 73, 74, 75, 76, 77, 78, 79, 80, 81, 82, 83, 84, 85, 86, 87, 88, 89, 90, 91, 92, 93, 94, 95, 96, 97, 98, 99, 100, 101, 102, 103, 104, 105, 106, 107, 108, 109, 110, 111, 112, 113, 114, 115, 116, 117, 118] (by decide +kernel) (by decide +kernel)
set_option maxRecDepth 20000 in
theorem gX4_worth_X4_look : GoodIn wsX4_worth (wsV RX4 148 RX4 yX4_look wsX4_look) := goodIn_app (goodIn_of _ (by decide +kernel)) ggX4_worth_X4_look
theorem dX4_worth_0 : decode cX4_worth 0 = .ok (.aload_n 0, 1) := by decide +kernel
theorem dX4_worth_1 : decode cX4_worth 1 = .ok (.iload_n 1, 1) := by decide +kernel
theorem dX4_worth_2 : decode cX4_worth 2 = .ok (.iconst 0, 1) := by decide +kernel
theorem dX4_worth_3 : decode cX4_worth 3 = .ok (.iconst 3, 1) := by decide +kernel
theorem dX4_worth_4 : decode cX4_worth 4 = .ok (.invokestatic 58, 3) := by decide +kernel
theorem dX4_worth_7 : decode cX4_worth 7 = .ok (.ifCond .ne 7, 3) := by decide +kernel
theorem dX4_worth_10 : decode cX4_worth 10 = .ok (.iconst 1, 1) := by decide +kernel
theorem dX4_worth_11 : decode cX4_worth 11 = .ok (.goto 16, 3) := by decide +kernel
theorem dX4_worth_14 : decode cX4_worth 14 = .ok (.aload_n 0, 1) := by decide +kernel
theorem dX4_worth_15 : decode cX4_worth 15 = .ok (.iload_n 1, 1) := by decide +kernel
theorem dX4_worth_16 : decode cX4_worth 16 = .ok (.invokevirtual 145, 3) := by decide +kernel
theorem dX4_worth_19 : decode cX4_worth 19 = .ok (.ifCond .eq 7, 3) := by decide +kernel
theorem dX4_worth_22 : decode cX4_worth 22 = .ok (.iconst 0, 1) := by decide +kernel
theorem dX4_worth_23 : decode cX4_worth 23 = .ok (.goto 4, 3) := by decide +kernel
theorem dX4_worth_26 : decode cX4_worth 26 = .ok (.iconst 2, 1) := by decide +kernel
theorem dX4_worth_27 : decode cX4_worth 27 = .ok (.invokevirtual 68, 3) := by decide +kernel
theorem dX4_worth_30 : decode cX4_worth 30 = .ok (.ifCond .eq 11, 3) := by decide +kernel
theorem dX4_worth_33 : decode cX4_worth 33 = .ok (.aload_n 0, 1) := by decide +kernel
theorem dX4_worth_34 : decode cX4_worth 34 = .ok (.iload_n 1, 1) := by decide +kernel
theorem dX4_worth_35 : decode cX4_worth 35 = .ok (.invokevirtual 148, 3) := by decide +kernel
theorem dX4_worth_38 : decode cX4_worth 38 = .ok (.goto 4, 3) := by decide +kernel
theorem dX4_worth_41 : decode cX4_worth 41 = .ok (.iconst 0, 1) := by decide +kernel
theorem dX4_worth_42 : decode cX4_worth 42 = .ok (.ireturn, 1) := by decide +kernel
set_option maxRecDepth 20000 in
theorem ggX4_best_X4_in : GoodIn wsX4_best wsX4_in := goodIn_r _ [5] (by decide +kernel) (by decide +kernel)
set_option maxRecDepth 20000 in
theorem gX4_best_X4_in : GoodIn wsX4_best (va_wsS RX4 58 yX4_in wsX4_in) := goodIn_app (goodIn_of _ (by decide +kernel)) ggX4_best_X4_in
set_option maxRecDepth 20000 in
theorem ggX4_best_X4_canLook : GoodIn wsX4_best wsX4_canLook := goodIn_r _ [9, 10, 11, 12, 13, 4, 14, 15, 16, 17, 18, 19, 20, 21, 22, 103, 104, 105, 106, 107, 108, 109, 110, 111, 112, 113, 114, 115, 116, 117, 118] (by decide +kernel) (by decide +kernel)
set_option maxRecDepth 20000 in
theorem gX4_best_X4_canLook : GoodIn wsX4_best (wsV RX4 145 RX4 yX4_canLook wsX4_canLook) := goodIn_app (goodIn_of _ (by decide +kernel)) ggX4_best_X4_canLook
set_option maxRecDepth 20000 in
theorem ggX4_best_X4_goesWell : GoodIn wsX4_best wsX4_goesWell := goodIn_r _ [26, 27, 103, 104, 105, 106, 107, 108, 109, 110, 111, 112, 113, 114, 115, 116, 117, 118] (by decide +kernel) (by decide +kernel)
set_option maxRecDepth 20000 in
theorem gX4_best_X4_goesWell : GoodIn wsX4_best (wsV RX4 68 RX4 yX4_goesWell wsX4_goesWell) := goodIn_app (goodIn_of _ (by decide +kernel)) ggX4_best_X4_goesWell
set_option maxRecDepth 20000 in
theorem ggX4_best_X4_look : GoodIn wsX4_best wsX4_look := goodIn_r _ [31, 32, 33, 34, 35, 36, 4, 37, 38, 39, 40, 41, 16, 17, 18, 19, 20, 21, 22, 42, 43, 44, 45, 46, 47, 48, 49, 50, 51, 52, 53, 54, 55, 56, 57, 58, 59, 60, 61, 62, 2, 3, 5, 63, 64, 65, 66, 67, 68, 69, 70, 71, 72, 73, 74, 75, 76, 77, 78, 79, 80, 81, 82, 83, 84, 85, 86, 87, 88, 89, 90, 91, 92, 93, 94, 1, 95, 96, 97, 98, 99, 100, 101, 102, 103, 104, 105, 106, 107, 108, 109, 110, 111, 112, 113, 114, 115, 116, 117, 118] (by decide +kernel) (by decide +kernel)
set_option maxRecDepth 20000 in
theorem gX4_best_X4_look : GoodIn wsX4_best (wsV RX4 148 RX4 yX4_look wsX4_look) := goodIn_app (goodIn_of _ (by decide +kernel)) ggX4_best_X4_look
theorem dX4_best_0 : decode cX4_best 0 = .ok (.aload_n 0, 1) := by decide +kernel
theorem dX4_best_1 : decode cX4_best 1 = .ok (.iload_n 1, 1) := by decide +kernel
theorem dX4_best_2 : decode cX4_best 2 = .ok (.iconst 1, 1) := by decide +kernel
theorem dX4_best_3 : decode cX4_best 3 = .ok (.iconst 3, 1) := by decide +kernel
theorem dX4_best_4 : decode cX4_best 4 = .ok (.invokestatic 58, 3) := by decide +kernel
theorem dX4_best_7 : decode cX4_best 7 = .ok (.ifCond .ne 7, 3) := by decide +kernel
theorem dX4_best_10 : decode cX4_best 10 = .ok (.iconst 1, 1) := by decide +kernel
theorem dX4_best_11 : decode cX4_best 11 = .ok (.goto 16, 3) := by decide +kernel
theorem dX4_best_14 : decode cX4_best 14 = .ok (.aload_n 0, 1) := by decide +kernel
theorem dX4_best_15 : decode cX4_best 15 = .ok (.iload_n 1, 1) := by decide +kernel
theorem dX4_best_16 : decode cX4_best 16 = .ok (.invokevirtual 145, 3) := by decide +kernel
theorem dX4_best_19 : decode cX4_best 19 = .ok (.ifCond .eq 7, 3) := by decide +kernel
theorem dX4_best_22 : decode cX4_best 22 = .ok (.iconst 0, 1) := by decide +kernel
theorem dX4_best_23 : decode cX4_best 23 = .ok (.goto 4, 3) := by decide +kernel
theorem dX4_best_26 : decode cX4_best 26 = .ok (.iconst 2, 1) := by decide +kernel
theorem dX4_best_27 : decode cX4_best 27 = .ok (.invokevirtual 68, 3) := by decide +kernel
theorem dX4_best_30 : decode cX4_best 30 = .ok (.ifCond .ne 5, 3) := by decide +kernel
theorem dX4_best_33 : decode cX4_best 33 = .ok (.iconst 0, 1) := by decide +kernel
theorem dX4_best_34 : decode cX4_best 34 = .ok (.ireturn, 1) := by decide +kernel
theorem dX4_best_35 : decode cX4_best 35 = .ok (.aload_n 0, 1) := by decide +kernel
theorem dX4_best_36 : decode cX4_best 36 = .ok (.iload_n 1, 1) := by decide +kernel
theorem dX4_best_37 : decode cX4_best 37 = .ok (.invokevirtual 148, 3) := by decide +kernel
theorem dX4_best_40 : decode cX4_best 40 = .ok (.istore_n 2, 1) := by decide +kernel
theorem dX4_best_41 : decode cX4_best 41 = .ok (.aload_n 0, 1) := by decide +kernel
theorem dX4_best_42 : decode cX4_best 42 = .ok (.getfield 132, 3) := by decide +kernel
theorem dX4_best_45 : decode cX4_best 45 = .ok (.ireturn, 1) := by decide +kernel
set_option maxRecDepth 20000 in
theorem ggX4_reached_X4_in : GoodIn wsX4_reached wsX4_in := goodIn_r _ [6] (by decide +kernel) (by decide +kernel)
set_option maxRecDepth 20000 in
theorem gX4_reached_X4_in : GoodIn wsX4_reached (va_wsS RX4 58 yX4_in wsX4_in) := goodIn_app (goodIn_of _ (by decide +kernel)) ggX4_reached_X4_in
set_option maxRecDepth 20000 in
theorem ggX4_reached_X4_goesWell : GoodIn wsX4_reached wsX4_goesWell := goodIn_r _ [10, 11, 12, 13, 14, 15, 16, 17, 18, 19, 20, 21, 22, 23, 24, 25, 26, 27] (by decide +kernel) (by decide +kernel)
set_option maxRecDepth 20000 in
theorem gX4_reached_X4_goesWell : GoodIn wsX4_reached (wsV RX4 68 RX4 yX4_goesWell wsX4_goesWell) := goodIn_app (goodIn_of _ (by decide +kernel)) ggX4_reached_X4_goesWell
theorem dX4_reached_0 : decode cX4_reached 0 = .ok (.aload_n 0, 1) := by decide +kernel
theorem dX4_reached_1 : decode cX4_reached 1 = .ok (.iload_n 1, 1) := by decide +kernel
theorem dX4_reached_2 : decode cX4_reached 2 = .ok (.iconst 0, 1) := by decide +kernel
theorem dX4_reached_3 : decode cX4_reached 3 = .ok (.iconst 1, 1) := by decide +kernel
theorem dX4_reached_4 : decode cX4_reached 4 = .ok (.invokestatic 58, 3) := by decide +kernel
theorem dX4_reached_7 : decode cX4_reached 7 = .ok (.ifCond .eq 7, 3) := by decide +kernel
theorem dX4_reached_10 : decode cX4_reached 10 = .ok (.iconst 0, 1) := by decide +kernel
theorem dX4_reached_11 : decode cX4_reached 11 = .ok (.goto 4, 3) := by decide +kernel
theorem dX4_reached_14 : decode cX4_reached 14 = .ok (.iconst 1, 1) := by decide +kernel
theorem dX4_reached_15 : decode cX4_reached 15 = .ok (.invokevirtual 68, 3) := by decide +kernel
theorem dX4_reached_18 : decode cX4_reached 18 = .ok (.ifCond .ne 5, 3) := by decide +kernel
theorem dX4_reached_21 : decode cX4_reached 21 = .ok (.iconst 0, 1) := by decide +kernel
theorem dX4_reached_22 : decode cX4_reached 22 = .ok (.ireturn, 1) := by decide +kernel
theorem dX4_reached_23 : decode cX4_reached 23 = .ok (.iconst 0, 1) := by decide +kernel
theorem dX4_reached_24 : decode cX4_reached 24 = .ok (.istore_n 2, 1) := by decide +kernel
theorem dX4_reached_25 : decode cX4_reached 25 = .ok (.iconst 0, 1) := by decide +kernel
theorem dX4_reached_26 : decode cX4_reached 26 = .ok (.istore_n 3, 1) := by decide +kernel
theorem dX4_reached_27 : decode cX4_reached 27 = .ok (.iload_n 3, 1) := by decide +kernel
theorem dX4_reached_28 : decode cX4_reached 28 = .ok (.iconst 2, 1) := by decide +kernel
theorem dX4_reached_29 : decode cX4_reached 29 = .ok (.if_icmp .ge 41, 3) := by decide +kernel
theorem dX4_reached_32 : decode cX4_reached 32 = .ok (.aload_n 0, 1) := by decide +kernel
theorem dX4_reached_33 : decode cX4_reached 33 = .ok (.getfield 26, 3) := by decide +kernel
theorem dX4_reached_36 : decode cX4_reached 36 = .ok (.iconst 2, 1) := by decide +kernel
theorem dX4_reached_37 : decode cX4_reached 37 = .ok (.iload_n 1, 1) := by decide +kernel
theorem dX4_reached_38 : decode cX4_reached 38 = .ok (.imul, 1) := by decide +kernel
theorem dX4_reached_39 : decode cX4_reached 39 = .ok (.iload_n 3, 1) := by decide +kernel
theorem dX4_reached_40 : decode cX4_reached 40 = .ok (.iadd, 1) := by decide +kernel
theorem dX4_reached_41 : decode cX4_reached 41 = .ok (.iaload, 1) := by decide +kernel
theorem dX4_reached_42 : decode cX4_reached 42 = .ok (.istore 4, 2) := by decide +kernel
theorem dX4_reached_44 : decode cX4_reached 44 = .ok (.iload_n 2, 1) := by decide +kernel
theorem dX4_reached_45 : decode cX4_reached 45 = .ok (.iload 4, 2) := by decide +kernel
theorem dX4_reached_47 : decode cX4_reached 47 = .ok (.iconst (-1), 1) := by decide +kernel
theorem dX4_reached_48 : decode cX4_reached 48 = .ok (.if_icmp .ne 7, 3) := by decide +kernel
theorem dX4_reached_51 : decode cX4_reached 51 = .ok (.iconst 0, 1) := by decide +kernel
theorem dX4_reached_52 : decode cX4_reached 52 = .ok (.goto 10, 3) := by decide +kernel
theorem dX4_reached_55 : decode cX4_reached 55 = .ok (.aload_n 0, 1) := by decide +kernel
theorem dX4_reached_56 : decode cX4_reached 56 = .ok (.getfield 23, 3) := by decide +kernel
theorem dX4_reached_59 : decode cX4_reached 59 = .ok (.iload 4, 2) := by decide +kernel
theorem dX4_reached_61 : decode cX4_reached 61 = .ok (.iaload, 1) := by decide +kernel
theorem dX4_reached_62 : decode cX4_reached 62 = .ok (.iadd, 1) := by decide +kernel
theorem dX4_reached_63 : decode cX4_reached 63 = .ok (.istore_n 2, 1) := by decide +kernel
theorem dX4_reached_64 : decode cX4_reached 64 = .ok (.iinc 3 1, 3) := by decide +kernel
theorem dX4_reached_67 : decode cX4_reached 67 = .ok (.goto (-40), 3) := by decide +kernel
theorem dX4_reached_70 : decode cX4_reached 70 = .ok (.iload_n 2, 1) := by decide +kernel
theorem dX4_reached_71 : decode cX4_reached 71 = .ok (.ireturn, 1) := by decide +kernel
