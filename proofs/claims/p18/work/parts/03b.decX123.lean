set_option maxRecDepth 20000 in
theorem ggX1_init_X2_init : GoodIn wsX1_init wsX2_init := goodIn_r _ [11, 12, 2, 3, 13, 14, 15, 16] (by decide +kernel) (by decide +kernel)
set_option maxRecDepth 20000 in
theorem gX1_init_X2_init_n11 : GoodIn wsX1_init (wsX2_init) := ggX1_init_X2_init
theorem dX1_init_0 : decode cX1_init 0 = .ok (.aload_n 0, 1) := by decide +kernel
theorem dX1_init_1 : decode cX1_init 1 = .ok (.invokespecial 3, 3) := by decide +kernel
theorem dX1_init_4 : decode cX1_init 4 = .ok (.aload_n 0, 1) := by decide +kernel
theorem dX1_init_5 : decode cX1_init 5 = .ok (.new 9, 3) := by decide +kernel
theorem dX1_init_8 : decode cX1_init 8 = .ok (.dup, 1) := by decide +kernel
theorem dX1_init_9 : decode cX1_init 9 = .ok (.invokespecial 11, 3) := by decide +kernel
theorem dX1_init_12 : decode cX1_init 12 = .ok (.putfield 12, 3) := by decide +kernel
theorem dX1_init_15 : decode cX1_init 15 = .ok (.aload_n 0, 1) := by decide +kernel
theorem dX1_init_16 : decode cX1_init 16 = .ok (.new 9, 3) := by decide +kernel
theorem dX1_init_19 : decode cX1_init 19 = .ok (.dup, 1) := by decide +kernel
theorem dX1_init_20 : decode cX1_init 20 = .ok (.invokespecial 11, 3) := by decide +kernel
theorem dX1_init_23 : decode cX1_init 23 = .ok (.putfield 18, 3) := by decide +kernel
theorem dX1_init_26 : decode cX1_init 26 = .ok (.aload_n 0, 1) := by decide +kernel
theorem dX1_init_27 : decode cX1_init 27 = .ok (.new 9, 3) := by decide +kernel
theorem dX1_init_30 : decode cX1_init 30 = .ok (.dup, 1) := by decide +kernel
theorem dX1_init_31 : decode cX1_init 31 = .ok (.invokespecial 11, 3) := by decide +kernel
theorem dX1_init_34 : decode cX1_init 34 = .ok (.putfield 21, 3) := by decide +kernel
theorem dX1_init_37 : decode cX1_init 37 = .ok (.return_, 1) := by decide +kernel
set_option maxRecDepth 20000 in
theorem ggX1_look_X1_listFor : GoodIn wsX1_look wsX1_listFor := goodIn_r _ [9, 10, 11, 12, 148, 149, 150] (by decide +kernel) (by decide +kernel)
set_option maxRecDepth 20000 in
theorem gX1_look_X1_listFor : GoodIn wsX1_look (wsV RX1 24 RX1 yX1_listFor wsX1_listFor) := goodIn_app (goodIn_of _ (by decide +kernel)) ggX1_look_X1_listFor
set_option maxRecDepth 20000 in
theorem ggX1_look_X0_listTurns : GoodIn wsX1_look wsX0_listTurns := goodIn_r _ [17, 18, 19, 20, 21, 22, 23, 24, 25, 26, 27, 28, 29, 30, 16, 31, 32, 33, 34, 35, 36, 37, 38, 39, 40, 41, 42, 43, 44, 45, 46, 47, 48, 49, 50, 51, 52, 53, 54, 55, 56, 57, 58, 59, 60, 61, 62, 63, 64, 65, 66, 67, 68, 69, 70, 71, 72, 73, 74, 75, 76, 77, 78, 79, 80, 81, 82, 83, 84, 85, 86, 87, 151, 152, 153, 154, 155, 156, 157, 158, 159, 160, 161, 162, 163, 146, 147] (by decide +kernel) (by decide +kernel)
set_option maxRecDepth 20000 in
theorem gX1_look_X0_listTurns : GoodIn wsX1_look (wsV RX1 28 RX0 yX0_listTurns wsX0_listTurns) := goodIn_app (goodIn_of _ (by decide +kernel)) ggX1_look_X0_listTurns
set_option maxRecDepth 20000 in
theorem ggX1_look_X2_at : GoodIn wsX1_look wsX2_at := goodIn_r _ [91, 87, 146, 147] (by decide +kernel) (by decide +kernel)
set_option maxRecDepth 20000 in
theorem gX1_look_X2_at : GoodIn wsX1_look (wsV RX1 38 RX2 yX2_at wsX2_at) := goodIn_app (goodIn_of _ (by decide +kernel)) ggX1_look_X2_at
set_option maxRecDepth 20000 in
theorem ggX1_look_X1_worthOf : GoodIn wsX1_look wsX1_worthOf := goodIn_r _ [95, 96, 97, 98, 16, 99, 19, 41, 18, 28, 29, 30, 31, 32, 100, 101, 102, 75, 76, 77, 78, 56, 57, 58, 59, 60, 65, 66, 67, 68, 69, 70, 103, 104, 105, 106, 107, 108, 109, 110, 47, 48, 49, 50, 51, 111, 112, 113, 114, 115, 116, 117, 118, 119, 120, 121, 122, 123, 124, 125, 126, 127, 128, 129, 130, 20, 37, 38, 39, 40, 42, 43, 44, 45, 46, 52, 53, 54, 55, 61, 62, 63, 64, 131, 132, 133, 134, 79, 80, 81, 82, 135, 136, 137, 8, 138, 139, 140, 141, 142, 143, 144, 145, 0, 1, 2, 3, 4, 5, 6, 7, 9, 10, 11, 12, 13, 14, 15, 17, 21, 22, 23, 24, 25, 26, 27, 33, 34, 35, 36, 71, 72, 73, 74, 83, 84, 85, 86, 87, 88, 89, 90, 91, 92, 93, 94, 146, 147, 148, 149, 150, 151, 152, 153, 154, 155, 156, 157, 158, 159, 160, 161, 162, 163] (by decide +kernel) (by decide +kernel)
set_option maxRecDepth 20000 in
theorem gX1_look_X1_worthOf : GoodIn wsX1_look (wsV RX1 42 RX1 yX1_worthOf wsX1_worthOf) := goodIn_app (goodIn_of _ (by decide +kernel)) ggX1_look_X1_worthOf
theorem dX1_look_0 : decode cX1_look 0 = .ok (.iload_n 2, 1) := by decide +kernel
theorem dX1_look_1 : decode cX1_look 1 = .ok (.ifCond .le 8, 3) := by decide +kernel
theorem dX1_look_4 : decode cX1_look 4 = .ok (.iload_n 2, 1) := by decide +kernel
theorem dX1_look_5 : decode cX1_look 5 = .ok (.iconst 3, 1) := by decide +kernel
theorem dX1_look_6 : decode cX1_look 6 = .ok (.if_icmp .le 5, 3) := by decide +kernel
theorem dX1_look_9 : decode cX1_look 9 = .ok (.iconst 0, 1) := by decide +kernel
theorem dX1_look_10 : decode cX1_look 10 = .ok (.ireturn, 1) := by decide +kernel
theorem dX1_look_11 : decode cX1_look 11 = .ok (.aload_n 0, 1) := by decide +kernel
theorem dX1_look_12 : decode cX1_look 12 = .ok (.iload_n 2, 1) := by decide +kernel
theorem dX1_look_13 : decode cX1_look 13 = .ok (.invokevirtual 24, 3) := by decide +kernel
theorem dX1_look_16 : decode cX1_look 16 = .ok (.astore_n 3, 1) := by decide +kernel
theorem dX1_look_17 : decode cX1_look 17 = .ok (.aload_n 1, 1) := by decide +kernel
theorem dX1_look_18 : decode cX1_look 18 = .ok (.aload_n 3, 1) := by decide +kernel
theorem dX1_look_19 : decode cX1_look 19 = .ok (.invokevirtual 28, 3) := by decide +kernel
theorem dX1_look_22 : decode cX1_look 22 = .ok (.iconst (-1), 1) := by decide +kernel
theorem dX1_look_23 : decode cX1_look 23 = .ok (.istore 4, 2) := by decide +kernel
theorem dX1_look_25 : decode cX1_look 25 = .ok (.iconst 0, 1) := by decide +kernel
theorem dX1_look_26 : decode cX1_look 26 = .ok (.istore 5, 2) := by decide +kernel
theorem dX1_look_28 : decode cX1_look 28 = .ok (.iload 5, 2) := by decide +kernel
theorem dX1_look_30 : decode cX1_look 30 = .ok (.aload_n 3, 1) := by decide +kernel
theorem dX1_look_31 : decode cX1_look 31 = .ok (.getfield 34, 3) := by decide +kernel
theorem dX1_look_34 : decode cX1_look 34 = .ok (.if_icmp .ge 34, 3) := by decide +kernel
theorem dX1_look_37 : decode cX1_look 37 = .ok (.iload 4, 2) := by decide +kernel
theorem dX1_look_39 : decode cX1_look 39 = .ok (.iconst 1, 1) := by decide +kernel
theorem dX1_look_40 : decode cX1_look 40 = .ok (.if_icmp .ge 28, 3) := by decide +kernel
theorem dX1_look_43 : decode cX1_look 43 = .ok (.iload 4, 2) := by decide +kernel
theorem dX1_look_45 : decode cX1_look 45 = .ok (.aload_n 0, 1) := by decide +kernel
theorem dX1_look_46 : decode cX1_look 46 = .ok (.aload_n 1, 1) := by decide +kernel
theorem dX1_look_47 : decode cX1_look 47 = .ok (.aload_n 3, 1) := by decide +kernel
theorem dX1_look_48 : decode cX1_look 48 = .ok (.iload 5, 2) := by decide +kernel
theorem dX1_look_50 : decode cX1_look 50 = .ok (.invokevirtual 38, 3) := by decide +kernel
theorem dX1_look_53 : decode cX1_look 53 = .ok (.iconst 1, 1) := by decide +kernel
theorem dX1_look_54 : decode cX1_look 54 = .ok (.invokevirtual 42, 3) := by decide +kernel
theorem dX1_look_57 : decode cX1_look 57 = .ok (.invokestatic 46, 3) := by decide +kernel
theorem dX1_look_60 : decode cX1_look 60 = .ok (.istore 4, 2) := by decide +kernel
theorem dX1_look_62 : decode cX1_look 62 = .ok (.iinc 5 1, 3) := by decide +kernel
theorem dX1_look_65 : decode cX1_look 65 = .ok (.goto (-37), 3) := by decide +kernel
theorem dX1_look_68 : decode cX1_look 68 = .ok (.iload_n 2, 1) := by decide +kernel
theorem dX1_look_69 : decode cX1_look 69 = .ok (.iconst 1, 1) := by decide +kernel
theorem dX1_look_70 : decode cX1_look 70 = .ok (.if_icmp .eq 9, 3) := by decide +kernel
theorem dX1_look_73 : decode cX1_look 73 = .ok (.iload 4, 2) := by decide +kernel
theorem dX1_look_75 : decode cX1_look 75 = .ok (.iconst 1, 1) := by decide +kernel
theorem dX1_look_76 : decode cX1_look 76 = .ok (.if_icmp .ne 6, 3) := by decide +kernel
theorem dX1_look_79 : decode cX1_look 79 = .ok (.iload 4, 2) := by decide +kernel
theorem dX1_look_81 : decode cX1_look 81 = .ok (.ireturn, 1) := by decide +kernel
theorem dX1_look_82 : decode cX1_look 82 = .ok (.iload_n 2, 1) := by decide +kernel
theorem dX1_look_83 : decode cX1_look 83 = .ok (.iconst 2, 1) := by decide +kernel
theorem dX1_look_84 : decode cX1_look 84 = .ok (.if_icmp .ne 7, 3) := by decide +kernel
theorem dX1_look_87 : decode cX1_look 87 = .ok (.iconst 0, 1) := by decide +kernel
theorem dX1_look_88 : decode cX1_look 88 = .ok (.goto 4, 3) := by decide +kernel
theorem dX1_look_91 : decode cX1_look 91 = .ok (.iconst 1, 1) := by decide +kernel
theorem dX1_look_92 : decode cX1_look 92 = .ok (.istore 5, 2) := by decide +kernel
theorem dX1_look_94 : decode cX1_look 94 = .ok (.iconst (-1), 1) := by decide +kernel
theorem dX1_look_95 : decode cX1_look 95 = .ok (.istore 4, 2) := by decide +kernel
theorem dX1_look_97 : decode cX1_look 97 = .ok (.iconst 0, 1) := by decide +kernel
theorem dX1_look_98 : decode cX1_look 98 = .ok (.istore 6, 2) := by decide +kernel
theorem dX1_look_100 : decode cX1_look 100 = .ok (.iload 6, 2) := by decide +kernel
theorem dX1_look_102 : decode cX1_look 102 = .ok (.aload_n 3, 1) := by decide +kernel
theorem dX1_look_103 : decode cX1_look 103 = .ok (.getfield 34, 3) := by decide +kernel
theorem dX1_look_106 : decode cX1_look 106 = .ok (.if_icmp .ge 35, 3) := by decide +kernel
theorem dX1_look_109 : decode cX1_look 109 = .ok (.iload 4, 2) := by decide +kernel
theorem dX1_look_111 : decode cX1_look 111 = .ok (.iload 5, 2) := by decide +kernel
theorem dX1_look_113 : decode cX1_look 113 = .ok (.if_icmp .ge 28, 3) := by decide +kernel
theorem dX1_look_116 : decode cX1_look 116 = .ok (.iload 4, 2) := by decide +kernel
theorem dX1_look_118 : decode cX1_look 118 = .ok (.aload_n 0, 1) := by decide +kernel
theorem dX1_look_119 : decode cX1_look 119 = .ok (.aload_n 1, 1) := by decide +kernel
theorem dX1_look_120 : decode cX1_look 120 = .ok (.aload_n 3, 1) := by decide +kernel
theorem dX1_look_121 : decode cX1_look 121 = .ok (.iload 6, 2) := by decide +kernel
theorem dX1_look_123 : decode cX1_look 123 = .ok (.invokevirtual 38, 3) := by decide +kernel
theorem dX1_look_126 : decode cX1_look 126 = .ok (.iload_n 2, 1) := by decide +kernel
theorem dX1_look_127 : decode cX1_look 127 = .ok (.invokevirtual 42, 3) := by decide +kernel
theorem dX1_look_130 : decode cX1_look 130 = .ok (.invokestatic 46, 3) := by decide +kernel
theorem dX1_look_133 : decode cX1_look 133 = .ok (.istore 4, 2) := by decide +kernel
theorem dX1_look_135 : decode cX1_look 135 = .ok (.iinc 6 1, 3) := by decide +kernel
theorem dX1_look_138 : decode cX1_look 138 = .ok (.goto (-38), 3) := by decide +kernel
theorem dX1_look_141 : decode cX1_look 141 = .ok (.iload 4, 2) := by decide +kernel
theorem dX1_look_143 : decode cX1_look 143 = .ok (.ireturn, 1) := by decide +kernel
set_option maxRecDepth 20000 in
theorem ggX1_worthOf_X0_perform : GoodIn wsX1_worthOf wsX0_perform := goodIn_r _ [5, 6, 7, 8, 9, 10, 11, 4, 12, 13, 14, 15, 16, 17, 18, 19, 20, 21, 22, 23, 24, 25, 26, 27, 28, 29, 30, 31, 32, 33, 34, 35, 36, 37, 38, 39, 40, 41, 42, 43, 44, 45, 46, 47, 48, 49, 50, 51, 52, 53, 54, 55, 56, 57, 58, 59, 60, 61, 62, 63, 64, 65, 66, 67, 68, 69, 70, 71, 72, 73, 74, 75, 76, 77, 78, 79, 80, 81, 82, 83, 84, 85, 86, 87, 88, 89, 90, 151, 152, 153, 154, 155, 156, 157, 158, 159, 160, 161, 162, 163] (by decide +kernel) (by decide +kernel)
set_option maxRecDepth 20000 in
theorem gX1_worthOf_X0_perform : GoodIn wsX1_worthOf (wsV RX1 52 RX0 yX0_perform wsX0_perform) := goodIn_app (goodIn_of _ (by decide +kernel)) ggX1_worthOf_X0_perform
set_option maxRecDepth 20000 in
theorem ggX1_worthOf_X1_look : GoodIn wsX1_worthOf wsX1_look := goodIn_r _ [103, 104, 105, 106, 107, 108, 109, 110, 94, 111, 112, 113, 114, 115, 116, 117, 4, 118, 8, 6, 65, 119, 120, 121, 122, 123, 124, 125, 9, 10, 11, 12, 13, 126, 127, 128, 129, 66, 67, 68, 69, 7, 70, 71, 72, 73, 74, 40, 41, 42, 43, 44, 75, 76, 77, 78, 21, 22, 23, 24, 25, 79, 80, 81, 82, 26, 27, 28, 29, 30, 31, 130, 131, 132, 133, 17, 18, 19, 20, 87, 88, 89, 90, 134, 135, 136, 137, 138, 139, 140, 141, 142, 143, 144, 145, 0, 1, 2, 3, 5, 14, 15, 16, 32, 33, 34, 35, 36, 37, 38, 39, 45, 46, 47, 48, 49, 50, 51, 52, 53, 54, 55, 56, 57, 58, 59, 60, 61, 62, 63, 64, 83, 84, 85, 86, 91, 92, 93, 95, 96, 97, 98, 99, 100, 101, 102, 146, 147, 148, 149, 150, 151, 152, 153, 154, 155, 156, 157, 158, 159, 160, 161, 162, 163] (by decide +kernel) (by decide +kernel)
set_option maxRecDepth 20000 in
theorem gX1_worthOf_X1_look : GoodIn wsX1_worthOf (wsV RX1 59 RX1 yX1_look wsX1_look) := goodIn_app (goodIn_of _ (by decide +kernel)) ggX1_worthOf_X1_look
set_option maxRecDepth 20000 in
theorem ggX1_worthOf_X0_undo : GoodIn wsX1_worthOf wsX0_undo := goodIn_r _ [98, 6, 36, 8, 7, 37, 38, 4, 39, 57, 58, 59, 60, 44, 14, 15, 16, 99, 100, 101, 102, 21, 22, 23, 24, 25, 49, 50, 51, 52, 53, 54, 55, 56, 13, 151, 152, 153, 154, 155, 156, 157, 158, 159, 160, 161, 162, 163] (by decide +kernel) (by decide +kernel)
set_option maxRecDepth 20000 in
theorem gX1_worthOf_X0_undo : GoodIn wsX1_worthOf (wsV RX1 63 RX0 yX0_undo wsX0_undo) := goodIn_app (goodIn_of _ (by decide +kernel)) ggX1_worthOf_X0_undo
theorem dX1_worthOf_0 : decode cX1_worthOf 0 = .ok (.aload_n 1, 1) := by decide +kernel
theorem dX1_worthOf_1 : decode cX1_worthOf 1 = .ok (.iload_n 2, 1) := by decide +kernel
theorem dX1_worthOf_2 : decode cX1_worthOf 2 = .ok (.invokevirtual 52, 3) := by decide +kernel
theorem dX1_worthOf_5 : decode cX1_worthOf 5 = .ok (.aload_n 1, 1) := by decide +kernel
theorem dX1_worthOf_6 : decode cX1_worthOf 6 = .ok (.getfield 56, 3) := by decide +kernel
theorem dX1_worthOf_9 : decode cX1_worthOf 9 = .ok (.iconst (-1), 1) := by decide +kernel
theorem dX1_worthOf_10 : decode cX1_worthOf 10 = .ok (.if_icmp .eq 7, 3) := by decide +kernel
theorem dX1_worthOf_13 : decode cX1_worthOf 13 = .ok (.iconst 1, 1) := by decide +kernel
theorem dX1_worthOf_14 : decode cX1_worthOf 14 = .ok (.goto 12, 3) := by decide +kernel
theorem dX1_worthOf_17 : decode cX1_worthOf 17 = .ok (.aload_n 0, 1) := by decide +kernel
theorem dX1_worthOf_18 : decode cX1_worthOf 18 = .ok (.aload_n 1, 1) := by decide +kernel
theorem dX1_worthOf_19 : decode cX1_worthOf 19 = .ok (.iload_n 3, 1) := by decide +kernel
theorem dX1_worthOf_20 : decode cX1_worthOf 20 = .ok (.iconst 1, 1) := by decide +kernel
theorem dX1_worthOf_21 : decode cX1_worthOf 21 = .ok (.isub, 1) := by decide +kernel
theorem dX1_worthOf_22 : decode cX1_worthOf 22 = .ok (.invokevirtual 59, 3) := by decide +kernel
theorem dX1_worthOf_25 : decode cX1_worthOf 25 = .ok (.ineg, 1) := by decide +kernel
theorem dX1_worthOf_26 : decode cX1_worthOf 26 = .ok (.istore 4, 2) := by decide +kernel
theorem dX1_worthOf_28 : decode cX1_worthOf 28 = .ok (.aload_n 1, 1) := by decide +kernel
theorem dX1_worthOf_29 : decode cX1_worthOf 29 = .ok (.invokevirtual 63, 3) := by decide +kernel
theorem dX1_worthOf_32 : decode cX1_worthOf 32 = .ok (.iload 4, 2) := by decide +kernel
theorem dX1_worthOf_34 : decode cX1_worthOf 34 = .ok (.ireturn, 1) := by decide +kernel
theorem dX1_listFor_0 : decode cX1_listFor 0 = .ok (.iload_n 1, 1) := by decide +kernel
theorem dX1_listFor_1 : decode cX1_listFor 1 = .ok (.iconst 1, 1) := by decide +kernel
theorem dX1_listFor_2 : decode cX1_listFor 2 = .ok (.if_icmp .ne 8, 3) := by decide +kernel
theorem dX1_listFor_5 : decode cX1_listFor 5 = .ok (.aload_n 0, 1) := by decide +kernel
theorem dX1_listFor_6 : decode cX1_listFor 6 = .ok (.getfield 12, 3) := by decide +kernel
theorem dX1_listFor_9 : decode cX1_listFor 9 = .ok (.areturn, 1) := by decide +kernel
theorem dX1_listFor_10 : decode cX1_listFor 10 = .ok (.iload_n 1, 1) := by decide +kernel
theorem dX1_listFor_11 : decode cX1_listFor 11 = .ok (.iconst 2, 1) := by decide +kernel
theorem dX1_listFor_12 : decode cX1_listFor 12 = .ok (.if_icmp .ne 10, 3) := by decide +kernel
theorem dX1_listFor_15 : decode cX1_listFor 15 = .ok (.aload_n 0, 1) := by decide +kernel
theorem dX1_listFor_16 : decode cX1_listFor 16 = .ok (.getfield 18, 3) := by decide +kernel
theorem dX1_listFor_19 : decode cX1_listFor 19 = .ok (.goto 7, 3) := by decide +kernel
theorem dX1_listFor_22 : decode cX1_listFor 22 = .ok (.aload_n 0, 1) := by decide +kernel
theorem dX1_listFor_23 : decode cX1_listFor 23 = .ok (.getfield 21, 3) := by decide +kernel
theorem dX1_listFor_26 : decode cX1_listFor 26 = .ok (.areturn, 1) := by decide +kernel
theorem dX2_init_0 : decode cX2_init 0 = .ok (.aload_n 0, 1) := by decide +kernel
theorem dX2_init_1 : decode cX2_init 1 = .ok (.invokespecial 3, 3) := by decide +kernel
theorem dX2_init_4 : decode cX2_init 4 = .ok (.aload_n 0, 1) := by decide +kernel
theorem dX2_init_5 : decode cX2_init 5 = .ok (.sipush 338, 3) := by decide +kernel
theorem dX2_init_8 : decode cX2_init 8 = .ok (.newarray .int, 2) := by decide +kernel
theorem dX2_init_10 : decode cX2_init 10 = .ok (.putfield 11, 3) := by decide +kernel
theorem dX2_init_13 : decode cX2_init 13 = .ok (.return_, 1) := by decide +kernel
theorem dX2_clear_0 : decode cX2_clear 0 = .ok (.aload_n 0, 1) := by decide +kernel
theorem dX2_clear_1 : decode cX2_clear 1 = .ok (.iconst 0, 1) := by decide +kernel
theorem dX2_clear_2 : decode cX2_clear 2 = .ok (.putfield 15, 3) := by decide +kernel
theorem dX2_clear_5 : decode cX2_clear 5 = .ok (.return_, 1) := by decide +kernel
theorem dX2_add_0 : decode cX2_add 0 = .ok (.aload_n 0, 1) := by decide +kernel
theorem dX2_add_1 : decode cX2_add 1 = .ok (.getfield 15, 3) := by decide +kernel
theorem dX2_add_4 : decode cX2_add 4 = .ok (.ifCond .lt 35, 3) := by decide +kernel
theorem dX2_add_7 : decode cX2_add 7 = .ok (.aload_n 0, 1) := by decide +kernel
theorem dX2_add_8 : decode cX2_add 8 = .ok (.getfield 15, 3) := by decide +kernel
theorem dX2_add_11 : decode cX2_add 11 = .ok (.aload_n 0, 1) := by decide +kernel
theorem dX2_add_12 : decode cX2_add 12 = .ok (.getfield 11, 3) := by decide +kernel
theorem dX2_add_15 : decode cX2_add 15 = .ok (.arraylength, 1) := by decide +kernel
theorem dX2_add_16 : decode cX2_add 16 = .ok (.if_icmp .ge 23, 3) := by decide +kernel
theorem dX2_add_19 : decode cX2_add 19 = .ok (.aload_n 0, 1) := by decide +kernel
theorem dX2_add_20 : decode cX2_add 20 = .ok (.getfield 11, 3) := by decide +kernel
theorem dX2_add_23 : decode cX2_add 23 = .ok (.aload_n 0, 1) := by decide +kernel
theorem dX2_add_24 : decode cX2_add 24 = .ok (.getfield 15, 3) := by decide +kernel
theorem dX2_add_27 : decode cX2_add 27 = .ok (.iload_n 1, 1) := by decide +kernel
theorem dX2_add_28 : decode cX2_add 28 = .ok (.iastore, 1) := by decide +kernel
theorem dX2_add_29 : decode cX2_add 29 = .ok (.aload_n 0, 1) := by decide +kernel
theorem dX2_add_30 : decode cX2_add 30 = .ok (.dup, 1) := by decide +kernel
theorem dX2_add_31 : decode cX2_add 31 = .ok (.getfield 15, 3) := by decide +kernel
theorem dX2_add_34 : decode cX2_add 34 = .ok (.iconst 1, 1) := by decide +kernel
theorem dX2_add_35 : decode cX2_add 35 = .ok (.iadd, 1) := by decide +kernel
theorem dX2_add_36 : decode cX2_add 36 = .ok (.putfield 15, 3) := by decide +kernel
theorem dX2_add_39 : decode cX2_add 39 = .ok (.return_, 1) := by decide +kernel
theorem dX2_at_0 : decode cX2_at 0 = .ok (.iload_n 1, 1) := by decide +kernel
theorem dX2_at_1 : decode cX2_at 1 = .ok (.ifCond .lt 21, 3) := by decide +kernel
theorem dX2_at_4 : decode cX2_at 4 = .ok (.iload_n 1, 1) := by decide +kernel
theorem dX2_at_5 : decode cX2_at 5 = .ok (.aload_n 0, 1) := by decide +kernel
theorem dX2_at_6 : decode cX2_at 6 = .ok (.getfield 11, 3) := by decide +kernel
theorem dX2_at_9 : decode cX2_at 9 = .ok (.arraylength, 1) := by decide +kernel
theorem dX2_at_10 : decode cX2_at 10 = .ok (.if_icmp .ge 12, 3) := by decide +kernel
theorem dX2_at_13 : decode cX2_at 13 = .ok (.aload_n 0, 1) := by decide +kernel
theorem dX2_at_14 : decode cX2_at 14 = .ok (.getfield 11, 3) := by decide +kernel
theorem dX2_at_17 : decode cX2_at 17 = .ok (.iload_n 1, 1) := by decide +kernel
theorem dX2_at_18 : decode cX2_at 18 = .ok (.iaload, 1) := by decide +kernel
theorem dX2_at_19 : decode cX2_at 19 = .ok (.goto 4, 3) := by decide +kernel
theorem dX2_at_22 : decode cX2_at 22 = .ok (.iconst (-1), 1) := by decide +kernel
theorem dX2_at_23 : decode cX2_at 23 = .ok (.ireturn, 1) := by decide +kernel
set_option maxRecDepth 20000 in
theorem ggX2_holds_X2_at : GoodIn wsX2_holds wsX2_at := goodIn_r _ [6, 7, 8, 9] (by decide +kernel) (by decide +kernel)
set_option maxRecDepth 20000 in
theorem gX2_holds_X2_at : GoodIn wsX2_holds (wsV RX2 19 RX2 yX2_at wsX2_at) := goodIn_app (goodIn_of _ (by decide +kernel)) ggX2_holds_X2_at
theorem dX2_holds_0 : decode cX2_holds 0 = .ok (.iconst 0, 1) := by decide +kernel
theorem dX2_holds_1 : decode cX2_holds 1 = .ok (.istore_n 2, 1) := by decide +kernel
theorem dX2_holds_2 : decode cX2_holds 2 = .ok (.iload_n 2, 1) := by decide +kernel
theorem dX2_holds_3 : decode cX2_holds 3 = .ok (.aload_n 0, 1) := by decide +kernel
theorem dX2_holds_4 : decode cX2_holds 4 = .ok (.getfield 15, 3) := by decide +kernel
theorem dX2_holds_7 : decode cX2_holds 7 = .ok (.if_icmp .ge 20, 3) := by decide +kernel
theorem dX2_holds_10 : decode cX2_holds 10 = .ok (.aload_n 0, 1) := by decide +kernel
theorem dX2_holds_11 : decode cX2_holds 11 = .ok (.iload_n 2, 1) := by decide +kernel
theorem dX2_holds_12 : decode cX2_holds 12 = .ok (.invokevirtual 19, 3) := by decide +kernel
theorem dX2_holds_15 : decode cX2_holds 15 = .ok (.iload_n 1, 1) := by decide +kernel
theorem dX2_holds_16 : decode cX2_holds 16 = .ok (.if_icmp .ne 5, 3) := by decide +kernel
theorem dX2_holds_19 : decode cX2_holds 19 = .ok (.iconst 1, 1) := by decide +kernel
theorem dX2_holds_20 : decode cX2_holds 20 = .ok (.ireturn, 1) := by decide +kernel
theorem dX2_holds_21 : decode cX2_holds 21 = .ok (.iinc 2 1, 3) := by decide +kernel
theorem dX2_holds_24 : decode cX2_holds 24 = .ok (.goto (-22), 3) := by decide +kernel
theorem dX2_holds_27 : decode cX2_holds 27 = .ok (.iconst 0, 1) := by decide +kernel
theorem dX2_holds_28 : decode cX2_holds 28 = .ok (.ireturn, 1) := by decide +kernel
set_option maxRecDepth 20000 in
theorem ggX3_init_X0_init : GoodIn wsX3_init wsX0_init := goodIn_r _ [17, 18, 2, 3, 19, 20, 21, 22, 23, 24, 58, 59, 60, 61, 62, 63, 64, 65, 66, 67, 68, 69, 70] (by decide +kernel) (by decide +kernel)
set_option maxRecDepth 20000 in
theorem gX3_init_X0_init_n11 : GoodIn wsX3_init (wsX0_init) := ggX3_init_X0_init
set_option maxRecDepth 20000 in
theorem ggX3_init_X2_init : GoodIn wsX3_init wsX2_init := goodIn_r _ [26, 27, 2, 3, 19, 28, 74, 75] (by decide +kernel) (by decide +kernel)
set_option maxRecDepth 20000 in
theorem gX3_init_X2_init_n18 : GoodIn wsX3_init (wsX2_init) := ggX3_init_X2_init
set_option maxRecDepth 20000 in
theorem ggX3_init_X1_init : GoodIn wsX3_init wsX1_init := goodIn_r _ [30, 31, 2, 3, 32, 9, 10, 33, 34, 35, 25, 26, 27, 19, 28, 74, 75, 76, 77, 78] (by decide +kernel) (by decide +kernel)
set_option maxRecDepth 20000 in
theorem gX3_init_X1_init_n25 : GoodIn wsX3_init (wsX1_init) := ggX3_init_X1_init
set_option maxRecDepth 20000 in
theorem ggX3_init_X0_start : GoodIn wsX3_init wsX0_start := goodIn_r _ [39, 40, 41, 42, 43, 44, 45, 46, 47, 21, 22, 23, 48, 49, 50, 51, 52, 53, 54, 6, 55, 56, 57, 20, 58, 59, 60, 61, 62, 63, 64, 65, 66, 67, 68, 69, 70] (by decide +kernel) (by decide +kernel)
set_option maxRecDepth 20000 in
theorem gX3_init_X0_start : GoodIn wsX3_init (wsV RX3 30 RX0 yX0_start wsX0_start) := goodIn_app (goodIn_of _ (by decide +kernel)) ggX3_init_X0_start
theorem dX3_init_0 : decode cX3_init 0 = .ok (.aload_n 0, 1) := by decide +kernel
theorem dX3_init_1 : decode cX3_init 1 = .ok (.invokespecial 3, 3) := by decide +kernel
theorem dX3_init_4 : decode cX3_init 4 = .ok (.aload_n 0, 1) := by decide +kernel
theorem dX3_init_5 : decode cX3_init 5 = .ok (.new 9, 3) := by decide +kernel
theorem dX3_init_8 : decode cX3_init 8 = .ok (.dup, 1) := by decide +kernel
theorem dX3_init_9 : decode cX3_init 9 = .ok (.invokespecial 11, 3) := by decide +kernel
theorem dX3_init_12 : decode cX3_init 12 = .ok (.putfield 12, 3) := by decide +kernel
theorem dX3_init_15 : decode cX3_init 15 = .ok (.aload_n 0, 1) := by decide +kernel
theorem dX3_init_16 : decode cX3_init 16 = .ok (.new 16, 3) := by decide +kernel
theorem dX3_init_19 : decode cX3_init 19 = .ok (.dup, 1) := by decide +kernel
theorem dX3_init_20 : decode cX3_init 20 = .ok (.invokespecial 18, 3) := by decide +kernel
theorem dX3_init_23 : decode cX3_init 23 = .ok (.putfield 19, 3) := by decide +kernel
theorem dX3_init_26 : decode cX3_init 26 = .ok (.aload_n 0, 1) := by decide +kernel
theorem dX3_init_27 : decode cX3_init 27 = .ok (.new 23, 3) := by decide +kernel
theorem dX3_init_30 : decode cX3_init 30 = .ok (.dup, 1) := by decide +kernel
theorem dX3_init_31 : decode cX3_init 31 = .ok (.invokespecial 25, 3) := by decide +kernel
theorem dX3_init_34 : decode cX3_init 34 = .ok (.putfield 26, 3) := by decide +kernel
theorem dX3_init_37 : decode cX3_init 37 = .ok (.aload_n 0, 1) := by decide +kernel
theorem dX3_init_38 : decode cX3_init 38 = .ok (.getfield 12, 3) := by decide +kernel
theorem dX3_init_41 : decode cX3_init 41 = .ok (.iconst 5, 1) := by decide +kernel
theorem dX3_init_42 : decode cX3_init 42 = .ok (.iconst 5, 1) := by decide +kernel
theorem dX3_init_43 : decode cX3_init 43 = .ok (.iconst 2, 1) := by decide +kernel
theorem dX3_init_44 : decode cX3_init 44 = .ok (.iconst 0, 1) := by decide +kernel
theorem dX3_init_45 : decode cX3_init 45 = .ok (.iconst 0, 1) := by decide +kernel
theorem dX3_init_46 : decode cX3_init 46 = .ok (.invokevirtual 30, 3) := by decide +kernel
theorem dX3_init_49 : decode cX3_init 49 = .ok (.return_, 1) := by decide +kernel
set_option maxRecDepth 20000 in
theorem ggX3_begin_X3_isOutside : GoodIn wsX3_begin wsX3_isOutside := goodIn_r _ [7] (by decide +kernel) (by decide +kernel)
set_option maxRecDepth 20000 in
theorem gX3_begin_X3_isOutside : GoodIn wsX3_begin (va_wsS RX3 34 yX3_isOutside wsX3_isOutside) := goodIn_app (goodIn_of _ (by decide +kernel)) ggX3_begin_X3_isOutside
set_option maxRecDepth 20000 in
theorem ggX3_begin_X0_start : GoodIn wsX3_begin wsX0_start := goodIn_r _ [12, 13, 14, 15, 16, 17, 18, 19, 20, 21, 22, 23, 24, 25, 26, 27, 28, 29, 30, 11, 31, 32, 33, 34, 38, 39, 40, 41, 42, 43, 44, 45, 46, 47, 48, 49, 50] (by decide +kernel) (by decide +kernel)
set_option maxRecDepth 20000 in
theorem gX3_begin_X0_start : GoodIn wsX3_begin (wsV RX3 30 RX0 yX0_start wsX0_start) := goodIn_app (goodIn_of _ (by decide +kernel)) ggX3_begin_X0_start
theorem dX3_begin_0 : decode cX3_begin 0 = .ok (.iload_n 1, 1) := by decide +kernel
theorem dX3_begin_1 : decode cX3_begin 1 = .ok (.iconst 2, 1) := by decide +kernel
theorem dX3_begin_2 : decode cX3_begin 2 = .ok (.iconst 5, 1) := by decide +kernel
theorem dX3_begin_3 : decode cX3_begin 3 = .ok (.invokestatic 34, 3) := by decide +kernel
theorem dX3_begin_6 : decode cX3_begin 6 = .ok (.ifCond .ne 12, 3) := by decide +kernel
theorem dX3_begin_9 : decode cX3_begin 9 = .ok (.iload_n 2, 1) := by decide +kernel
theorem dX3_begin_10 : decode cX3_begin 10 = .ok (.iconst 2, 1) := by decide +kernel
theorem dX3_begin_11 : decode cX3_begin 11 = .ok (.iconst 5, 1) := by decide +kernel
theorem dX3_begin_12 : decode cX3_begin 12 = .ok (.invokestatic 34, 3) := by decide +kernel
theorem dX3_begin_15 : decode cX3_begin 15 = .ok (.ifCond .eq 13, 3) := by decide +kernel
theorem dX3_begin_18 : decode cX3_begin 18 = .ok (.new 38, 3) := by decide +kernel
theorem dX3_begin_21 : decode cX3_begin 21 = .ok (.dup, 1) := by decide +kernel
theorem dX3_begin_22 : decode cX3_begin 22 = .ok (.ldc 40, 2) := by decide +kernel
theorem dX3_begin_24 : decode cX3_begin 24 = .ok (.invokespecial 42, 3) := by decide +kernel
theorem dX3_begin_27 : decode cX3_begin 27 = .ok (.athrow, 1) := by decide +kernel
theorem dX3_begin_28 : decode cX3_begin 28 = .ok (.iload_n 3, 1) := by decide +kernel
theorem dX3_begin_29 : decode cX3_begin 29 = .ok (.iconst 1, 1) := by decide +kernel
theorem dX3_begin_30 : decode cX3_begin 30 = .ok (.iconst 2, 1) := by decide +kernel
theorem dX3_begin_31 : decode cX3_begin 31 = .ok (.invokestatic 34, 3) := by decide +kernel
theorem dX3_begin_34 : decode cX3_begin 34 = .ok (.ifCond .ne 12, 3) := by decide +kernel
theorem dX3_begin_37 : decode cX3_begin 37 = .ok (.iconst 2, 1) := by decide +kernel
theorem dX3_begin_38 : decode cX3_begin 38 = .ok (.iload_n 3, 1) := by decide +kernel
theorem dX3_begin_39 : decode cX3_begin 39 = .ok (.imul, 1) := by decide +kernel
theorem dX3_begin_40 : decode cX3_begin 40 = .ok (.iload_n 1, 1) := by decide +kernel
theorem dX3_begin_41 : decode cX3_begin 41 = .ok (.iload_n 2, 1) := by decide +kernel
theorem dX3_begin_42 : decode cX3_begin 42 = .ok (.imul, 1) := by decide +kernel
theorem dX3_begin_43 : decode cX3_begin 43 = .ok (.if_icmp .lt 13, 3) := by decide +kernel
theorem dX3_begin_46 : decode cX3_begin 46 = .ok (.new 38, 3) := by decide +kernel
theorem dX3_begin_49 : decode cX3_begin 49 = .ok (.dup, 1) := by decide +kernel
theorem dX3_begin_50 : decode cX3_begin 50 = .ok (.ldc 45, 2) := by decide +kernel
theorem dX3_begin_52 : decode cX3_begin 52 = .ok (.invokespecial 42, 3) := by decide +kernel
theorem dX3_begin_55 : decode cX3_begin 55 = .ok (.athrow, 1) := by decide +kernel
theorem dX3_begin_56 : decode cX3_begin 56 = .ok (.iload 4, 2) := by decide +kernel
theorem dX3_begin_58 : decode cX3_begin 58 = .ok (.iconst 0, 1) := by decide +kernel
theorem dX3_begin_59 : decode cX3_begin 59 = .ok (.bipush 6, 2) := by decide +kernel
theorem dX3_begin_61 : decode cX3_begin 61 = .ok (.invokestatic 34, 3) := by decide +kernel
theorem dX3_begin_64 : decode cX3_begin 64 = .ok (.ifCond .ne 14, 3) := by decide +kernel
theorem dX3_begin_67 : decode cX3_begin 67 = .ok (.iload 5, 2) := by decide +kernel
theorem dX3_begin_69 : decode cX3_begin 69 = .ok (.iconst 0, 1) := by decide +kernel
theorem dX3_begin_70 : decode cX3_begin 70 = .ok (.bipush 6, 2) := by decide +kernel
theorem dX3_begin_72 : decode cX3_begin 72 = .ok (.invokestatic 34, 3) := by decide +kernel
theorem dX3_begin_75 : decode cX3_begin 75 = .ok (.ifCond .eq 13, 3) := by decide +kernel
theorem dX3_begin_78 : decode cX3_begin 78 = .ok (.new 38, 3) := by decide +kernel
theorem dX3_begin_81 : decode cX3_begin 81 = .ok (.dup, 1) := by decide +kernel
theorem dX3_begin_82 : decode cX3_begin 82 = .ok (.ldc 47, 2) := by decide +kernel
theorem dX3_begin_84 : decode cX3_begin 84 = .ok (.invokespecial 42, 3) := by decide +kernel
theorem dX3_begin_87 : decode cX3_begin 87 = .ok (.athrow, 1) := by decide +kernel
theorem dX3_begin_88 : decode cX3_begin 88 = .ok (.aload_n 0, 1) := by decide +kernel
theorem dX3_begin_89 : decode cX3_begin 89 = .ok (.getfield 12, 3) := by decide +kernel
theorem dX3_begin_92 : decode cX3_begin 92 = .ok (.iload_n 1, 1) := by decide +kernel
theorem dX3_begin_93 : decode cX3_begin 93 = .ok (.iload_n 2, 1) := by decide +kernel
theorem dX3_begin_94 : decode cX3_begin 94 = .ok (.iload_n 3, 1) := by decide +kernel
theorem dX3_begin_95 : decode cX3_begin 95 = .ok (.iload 4, 2) := by decide +kernel
theorem dX3_begin_97 : decode cX3_begin 97 = .ok (.iload 5, 2) := by decide +kernel
theorem dX3_begin_99 : decode cX3_begin 99 = .ok (.invokevirtual 30, 3) := by decide +kernel
theorem dX3_begin_102 : decode cX3_begin 102 = .ok (.aload_n 0, 1) := by decide +kernel
theorem dX3_begin_103 : decode cX3_begin 103 = .ok (.getfield 12, 3) := by decide +kernel
theorem dX3_begin_106 : decode cX3_begin 106 = .ok (.getfield 49, 3) := by decide +kernel
theorem dX3_begin_109 : decode cX3_begin 109 = .ok (.ireturn, 1) := by decide +kernel
set_option maxRecDepth 20000 in
theorem ggX3_place_X3_requireCell : GoodIn wsX3_place wsX3_requireCell := goodIn_ca (goodIn_r _ [8, 9, 10, 3, 11, 12, 7, 13, 92, 93, 94, 95, 96, 97, 98, 99, 100, 101, 102, 103, 104, 105, 106, 107] (by decide +kernel) (by decide +kernel)) (goodIn_sub (fun _ h => List.mem_cons_of_mem _ (List.mem_append_right _ h)) (by decide +kernel))
set_option maxRecDepth 20000 in
theorem gX3_place_X3_requireCell : GoodIn wsX3_place (wsV RX3 53 RX3 yX3_requireCell wsX3_requireCell) := goodIn_app (goodIn_of _ (by decide +kernel)) ggX3_place_X3_requireCell
set_option maxRecDepth 20000 in
theorem ggX3_place_X0_isSet : GoodIn wsX3_place wsX0_isSet := goodIn_r _ [18, 19, 20, 95, 96, 97, 98, 99, 100, 101, 102, 103, 104, 105, 106, 107] (by decide +kernel) (by decide +kernel)
set_option maxRecDepth 20000 in
theorem gX3_place_X0_isSet : GoodIn wsX3_place (wsV RX3 57 RX0 yX0_isSet wsX0_isSet) := goodIn_app (goodIn_of _ (by decide +kernel)) ggX3_place_X0_isSet
set_option maxRecDepth 20000 in
theorem ggX3_place_X0_isOpen : GoodIn wsX3_place wsX0_isOpen := goodIn_r _ [24, 25, 26, 95, 96, 97, 98, 99, 100, 101, 102, 103, 104, 105, 106, 107] (by decide +kernel) (by decide +kernel)
set_option maxRecDepth 20000 in
theorem gX3_place_X0_isOpen : GoodIn wsX3_place (wsV RX3 61 RX0 yX0_isOpen wsX0_isOpen) := goodIn_app (goodIn_of _ (by decide +kernel)) ggX3_place_X0_isOpen
set_option maxRecDepth 20000 in
theorem ggX3_place_X0_addBuilder : GoodIn wsX3_place wsX0_addBuilder := goodIn_r _ [30, 19, 20, 31, 32, 33, 34, 17, 35, 25, 36, 37, 15, 16, 18, 38, 39, 40, 41, 42, 43, 44, 45, 46, 47, 48, 49, 50, 51, 52, 53, 54, 55, 56, 57, 58, 59, 26, 60, 61, 62, 63, 64, 65, 66, 67, 68, 22, 23, 24, 69, 70, 71, 72, 73, 74, 75, 76, 77, 78, 79, 80, 81, 82, 83, 84, 85, 86, 95, 96, 97, 98, 99, 100, 101, 102, 103, 104, 105, 106, 107] (by decide +kernel) (by decide +kernel)
set_option maxRecDepth 20000 in
theorem gX3_place_X0_addBuilder : GoodIn wsX3_place (wsV RX3 70 RX0 yX0_addBuilder wsX0_addBuilder) := goodIn_app (goodIn_of _ (by decide +kernel)) ggX3_place_X0_addBuilder
set_option maxRecDepth 20000 in
theorem ggX3_place_X0_mover : GoodIn wsX3_place wsX0_mover := goodIn_r _ [90, 31, 91, 19, 20, 37, 15, 16, 17, 18, 95, 96, 97, 98, 99, 100, 101, 102, 103, 104, 105, 106, 107] (by decide +kernel) (by decide +kernel)
set_option maxRecDepth 20000 in
theorem gX3_place_X0_mover : GoodIn wsX3_place (wsV RX3 73 RX0 yX0_mover wsX0_mover) := goodIn_app (goodIn_of _ (by decide +kernel)) ggX3_place_X0_mover
theorem dX3_place_0 : decode cX3_place 0 = .ok (.aload_n 0, 1) := by decide +kernel
theorem dX3_place_1 : decode cX3_place 1 = .ok (.iload_n 1, 1) := by decide +kernel
theorem dX3_place_2 : decode cX3_place 2 = .ok (.invokevirtual 53, 3) := by decide +kernel
theorem dX3_place_5 : decode cX3_place 5 = .ok (.aload_n 0, 1) := by decide +kernel
theorem dX3_place_6 : decode cX3_place 6 = .ok (.getfield 12, 3) := by decide +kernel
theorem dX3_place_9 : decode cX3_place 9 = .ok (.invokevirtual 57, 3) := by decide +kernel
theorem dX3_place_12 : decode cX3_place 12 = .ok (.ifCond .ne 14, 3) := by decide +kernel
theorem dX3_place_15 : decode cX3_place 15 = .ok (.aload_n 0, 1) := by decide +kernel
theorem dX3_place_16 : decode cX3_place 16 = .ok (.getfield 12, 3) := by decide +kernel
theorem dX3_place_19 : decode cX3_place 19 = .ok (.iload_n 1, 1) := by decide +kernel
theorem dX3_place_20 : decode cX3_place 20 = .ok (.invokevirtual 61, 3) := by decide +kernel
theorem dX3_place_23 : decode cX3_place 23 = .ok (.ifCond .ne 13, 3) := by decide +kernel
theorem dX3_place_26 : decode cX3_place 26 = .ok (.new 65, 3) := by decide +kernel
theorem dX3_place_29 : decode cX3_place 29 = .ok (.dup, 1) := by decide +kernel
theorem dX3_place_30 : decode cX3_place 30 = .ok (.ldc 67, 2) := by decide +kernel
theorem dX3_place_32 : decode cX3_place 32 = .ok (.invokespecial 69, 3) := by decide +kernel
theorem dX3_place_35 : decode cX3_place 35 = .ok (.athrow, 1) := by decide +kernel
theorem dX3_place_36 : decode cX3_place 36 = .ok (.aload_n 0, 1) := by decide +kernel
theorem dX3_place_37 : decode cX3_place 37 = .ok (.getfield 12, 3) := by decide +kernel
theorem dX3_place_40 : decode cX3_place 40 = .ok (.iload_n 1, 1) := by decide +kernel
theorem dX3_place_41 : decode cX3_place 41 = .ok (.invokevirtual 70, 3) := by decide +kernel
theorem dX3_place_44 : decode cX3_place 44 = .ok (.aload_n 0, 1) := by decide +kernel
theorem dX3_place_45 : decode cX3_place 45 = .ok (.getfield 12, 3) := by decide +kernel
theorem dX3_place_48 : decode cX3_place 48 = .ok (.invokevirtual 73, 3) := by decide +kernel
theorem dX3_place_51 : decode cX3_place 51 = .ok (.ireturn, 1) := by decide +kernel
set_option maxRecDepth 20000 in
theorem ggX3_raise_X3_requireCell : GoodIn wsX3_raise wsX3_requireCell := goodIn_ca (goodIn_r _ [10, 11, 12, 5, 13, 14, 9, 15, 37, 38, 39, 40, 41, 42, 43, 44, 45, 46, 47, 48, 49, 50, 51, 52] (by decide +kernel) (by decide +kernel)) (goodIn_sub (fun _ h => List.mem_cons_of_mem _ (List.mem_append_right _ h)) (by decide +kernel))
set_option maxRecDepth 20000 in
theorem gX3_raise_X3_requireCell : GoodIn wsX3_raise (wsV RX3 53 RX3 yX3_requireCell wsX3_requireCell) := goodIn_app (goodIn_of _ (by decide +kernel)) ggX3_raise_X3_requireCell
set_option maxRecDepth 20000 in
theorem ggX3_raise_X3_isOutside : GoodIn wsX3_raise wsX3_isOutside := goodIn_r _ [15] (by decide +kernel) (by decide +kernel)
set_option maxRecDepth 20000 in
theorem gX3_raise_X3_isOutside : GoodIn wsX3_raise (va_wsS RX3 34 yX3_isOutside wsX3_isOutside) := goodIn_app (goodIn_of _ (by decide +kernel)) ggX3_raise_X3_isOutside
set_option maxRecDepth 20000 in
theorem ggX3_raise_X0_isSet : GoodIn wsX3_raise wsX0_isSet := goodIn_r _ [20, 21, 22, 40, 41, 42, 43, 44, 45, 46, 47, 48, 49, 50, 51, 52] (by decide +kernel) (by decide +kernel)
set_option maxRecDepth 20000 in
theorem gX3_raise_X0_isSet : GoodIn wsX3_raise (wsV RX3 57 RX0 yX0_isSet wsX0_isSet) := goodIn_app (goodIn_of _ (by decide +kernel)) ggX3_raise_X0_isSet
set_option maxRecDepth 20000 in
theorem ggX3_raise_X0_holderOf : GoodIn wsX3_raise wsX0_holderOf := goodIn_r _ [26, 27, 40, 41, 42, 43, 44, 45, 46, 47, 48, 49, 50, 51, 52] (by decide +kernel) (by decide +kernel)
set_option maxRecDepth 20000 in
theorem gX3_raise_X0_holderOf : GoodIn wsX3_raise (wsV RX3 79 RX0 yX0_holderOf wsX0_holderOf) := goodIn_app (goodIn_of _ (by decide +kernel)) ggX3_raise_X0_holderOf
set_option maxRecDepth 20000 in
theorem ggX3_raise_X0_storeysOf : GoodIn wsX3_raise wsX0_storeysOf := goodIn_r _ [31, 32, 40, 41, 42, 43, 44, 45, 46, 47, 48, 49, 50, 51, 52] (by decide +kernel) (by decide +kernel)
set_option maxRecDepth 20000 in
theorem gX3_raise_X0_storeysOf : GoodIn wsX3_raise (wsV RX3 85 RX0 yX0_storeysOf wsX0_storeysOf) := goodIn_app (goodIn_of _ (by decide +kernel)) ggX3_raise_X0_storeysOf
set_option maxRecDepth 20000 in
theorem ggX3_raise_X0_setStoreys : GoodIn wsX3_raise wsX0_setStoreys := goodIn_r _ [36, 32, 40, 41, 42, 43, 44, 45, 46, 47, 48, 49, 50, 51, 52] (by decide +kernel) (by decide +kernel)
set_option maxRecDepth 20000 in
theorem gX3_raise_X0_setStoreys : GoodIn wsX3_raise (wsV RX3 88 RX0 yX0_setStoreys wsX0_setStoreys) := goodIn_app (goodIn_of _ (by decide +kernel)) ggX3_raise_X0_setStoreys
theorem dX3_raise_0 : decode cX3_raise 0 = .ok (.aload_n 0, 1) := by decide +kernel
theorem dX3_raise_1 : decode cX3_raise 1 = .ok (.iload_n 1, 1) := by decide +kernel
theorem dX3_raise_2 : decode cX3_raise 2 = .ok (.invokevirtual 53, 3) := by decide +kernel
theorem dX3_raise_5 : decode cX3_raise 5 = .ok (.iload_n 2, 1) := by decide +kernel
theorem dX3_raise_6 : decode cX3_raise 6 = .ok (.iconst 0, 1) := by decide +kernel
theorem dX3_raise_7 : decode cX3_raise 7 = .ok (.iconst 4, 1) := by decide +kernel
theorem dX3_raise_8 : decode cX3_raise 8 = .ok (.invokestatic 34, 3) := by decide +kernel
theorem dX3_raise_11 : decode cX3_raise 11 = .ok (.ifCond .eq 13, 3) := by decide +kernel
theorem dX3_raise_14 : decode cX3_raise 14 = .ok (.new 38, 3) := by decide +kernel
theorem dX3_raise_17 : decode cX3_raise 17 = .ok (.dup, 1) := by decide +kernel
theorem dX3_raise_18 : decode cX3_raise 18 = .ok (.ldc 77, 2) := by decide +kernel
theorem dX3_raise_20 : decode cX3_raise 20 = .ok (.invokespecial 42, 3) := by decide +kernel
theorem dX3_raise_23 : decode cX3_raise 23 = .ok (.athrow, 1) := by decide +kernel
theorem dX3_raise_24 : decode cX3_raise 24 = .ok (.aload_n 0, 1) := by decide +kernel
theorem dX3_raise_25 : decode cX3_raise 25 = .ok (.getfield 12, 3) := by decide +kernel
theorem dX3_raise_28 : decode cX3_raise 28 = .ok (.invokevirtual 57, 3) := by decide +kernel
theorem dX3_raise_31 : decode cX3_raise 31 = .ok (.ifCond .ne 15, 3) := by decide +kernel
theorem dX3_raise_34 : decode cX3_raise 34 = .ok (.aload_n 0, 1) := by decide +kernel
theorem dX3_raise_35 : decode cX3_raise 35 = .ok (.getfield 12, 3) := by decide +kernel
theorem dX3_raise_38 : decode cX3_raise 38 = .ok (.iload_n 1, 1) := by decide +kernel
theorem dX3_raise_39 : decode cX3_raise 39 = .ok (.invokevirtual 79, 3) := by decide +kernel
theorem dX3_raise_42 : decode cX3_raise 42 = .ok (.iconst (-1), 1) := by decide +kernel
theorem dX3_raise_43 : decode cX3_raise 43 = .ok (.if_icmp .eq 13, 3) := by decide +kernel
theorem dX3_raise_46 : decode cX3_raise 46 = .ok (.new 65, 3) := by decide +kernel
theorem dX3_raise_49 : decode cX3_raise 49 = .ok (.dup, 1) := by decide +kernel
theorem dX3_raise_50 : decode cX3_raise 50 = .ok (.ldc 83, 2) := by decide +kernel
theorem dX3_raise_52 : decode cX3_raise 52 = .ok (.invokespecial 69, 3) := by decide +kernel
theorem dX3_raise_55 : decode cX3_raise 55 = .ok (.athrow, 1) := by decide +kernel
theorem dX3_raise_56 : decode cX3_raise 56 = .ok (.aload_n 0, 1) := by decide +kernel
theorem dX3_raise_57 : decode cX3_raise 57 = .ok (.getfield 12, 3) := by decide +kernel
theorem dX3_raise_60 : decode cX3_raise 60 = .ok (.iload_n 1, 1) := by decide +kernel
theorem dX3_raise_61 : decode cX3_raise 61 = .ok (.invokevirtual 85, 3) := by decide +kernel
theorem dX3_raise_64 : decode cX3_raise 64 = .ok (.istore_n 3, 1) := by decide +kernel
theorem dX3_raise_65 : decode cX3_raise 65 = .ok (.aload_n 0, 1) := by decide +kernel
theorem dX3_raise_66 : decode cX3_raise 66 = .ok (.getfield 12, 3) := by decide +kernel
theorem dX3_raise_69 : decode cX3_raise 69 = .ok (.iload_n 1, 1) := by decide +kernel
theorem dX3_raise_70 : decode cX3_raise 70 = .ok (.iload_n 2, 1) := by decide +kernel
theorem dX3_raise_71 : decode cX3_raise 71 = .ok (.invokevirtual 88, 3) := by decide +kernel
theorem dX3_raise_74 : decode cX3_raise 74 = .ok (.iload_n 3, 1) := by decide +kernel
theorem dX3_raise_75 : decode cX3_raise 75 = .ok (.ireturn, 1) := by decide +kernel
set_option maxRecDepth 20000 in
theorem ggX3_onTurn_X0_mover : GoodIn wsX3_onTurn wsX0_mover := goodIn_r _ [6, 7, 8, 9, 10, 11, 12, 13, 5, 14, 18, 19, 20, 21, 22, 23, 24, 25, 26, 27, 28, 29, 30] (by decide +kernel) (by decide +kernel)
set_option maxRecDepth 20000 in
theorem gX3_onTurn_X0_mover : GoodIn wsX3_onTurn (wsV RX3 73 RX0 yX0_mover wsX0_mover) := goodIn_app (goodIn_of _ (by decide +kernel)) ggX3_onTurn_X0_mover
theorem dX3_onTurn_0 : decode cX3_onTurn 0 = .ok (.aload_n 0, 1) := by decide +kernel
theorem dX3_onTurn_1 : decode cX3_onTurn 1 = .ok (.getfield 12, 3) := by decide +kernel
theorem dX3_onTurn_4 : decode cX3_onTurn 4 = .ok (.invokevirtual 73, 3) := by decide +kernel
theorem dX3_onTurn_7 : decode cX3_onTurn 7 = .ok (.ireturn, 1) := by decide +kernel
theorem dX3_winner_0 : decode cX3_winner 0 = .ok (.aload_n 0, 1) := by decide +kernel
theorem dX3_winner_1 : decode cX3_winner 1 = .ok (.getfield 12, 3) := by decide +kernel
theorem dX3_winner_4 : decode cX3_winner 4 = .ok (.getfield 92, 3) := by decide +kernel
theorem dX3_winner_7 : decode cX3_winner 7 = .ok (.ireturn, 1) := by decide +kernel
set_option maxRecDepth 20000 in
theorem ggX3_height_X3_requireCell : GoodIn wsX3_height wsX3_requireCell := goodIn_ca (goodIn_r _ [6, 7, 8, 1, 9, 10, 5, 11, 18, 19, 20, 21, 22, 23, 24, 25, 26, 27, 28, 29, 30, 31, 32, 33] (by decide +kernel) (by decide +kernel)) (goodIn_sub (fun _ h => List.mem_cons_of_mem _ (List.mem_append_right _ h)) (by decide +kernel))
set_option maxRecDepth 20000 in
theorem gX3_height_X3_requireCell : GoodIn wsX3_height (wsV RX3 53 RX3 yX3_requireCell wsX3_requireCell) := goodIn_app (goodIn_of _ (by decide +kernel)) ggX3_height_X3_requireCell
set_option maxRecDepth 20000 in
theorem ggX3_height_X0_storeysOf : GoodIn wsX3_height wsX0_storeysOf := goodIn_r _ [16, 17, 21, 22, 23, 24, 25, 26, 27, 28, 29, 30, 31, 32, 33] (by decide +kernel) (by decide +kernel)
set_option maxRecDepth 20000 in
theorem gX3_height_X0_storeysOf : GoodIn wsX3_height (wsV RX3 85 RX0 yX0_storeysOf wsX0_storeysOf) := goodIn_app (goodIn_of _ (by decide +kernel)) ggX3_height_X0_storeysOf
theorem dX3_height_0 : decode cX3_height 0 = .ok (.aload_n 0, 1) := by decide +kernel
theorem dX3_height_1 : decode cX3_height 1 = .ok (.iload_n 1, 1) := by decide +kernel
theorem dX3_height_2 : decode cX3_height 2 = .ok (.invokevirtual 53, 3) := by decide +kernel
theorem dX3_height_5 : decode cX3_height 5 = .ok (.aload_n 0, 1) := by decide +kernel
theorem dX3_height_6 : decode cX3_height 6 = .ok (.getfield 12, 3) := by decide +kernel
theorem dX3_height_9 : decode cX3_height 9 = .ok (.iload_n 1, 1) := by decide +kernel
theorem dX3_height_10 : decode cX3_height 10 = .ok (.invokevirtual 85, 3) := by decide +kernel
theorem dX3_height_13 : decode cX3_height 13 = .ok (.ireturn, 1) := by decide +kernel
set_option maxRecDepth 20000 in
theorem ggX3_builderAt_X3_requireCell : GoodIn wsX3_builderAt wsX3_requireCell := goodIn_ca (goodIn_r _ [6, 7, 8, 1, 9, 10, 5, 11, 18, 19, 20, 21, 22, 23, 24, 25, 26, 27, 28, 29, 30, 31, 32, 33] (by decide +kernel) (by decide +kernel)) (goodIn_sub (fun _ h => List.mem_cons_of_mem _ (List.mem_append_right _ h)) (by decide +kernel))
set_option maxRecDepth 20000 in
theorem gX3_builderAt_X3_requireCell : GoodIn wsX3_builderAt (wsV RX3 53 RX3 yX3_requireCell wsX3_requireCell) := goodIn_app (goodIn_of _ (by decide +kernel)) ggX3_builderAt_X3_requireCell
set_option maxRecDepth 20000 in
theorem ggX3_builderAt_X0_holderOf : GoodIn wsX3_builderAt wsX0_holderOf := goodIn_r _ [16, 17, 21, 22, 23, 24, 25, 26, 27, 28, 29, 30, 31, 32, 33] (by decide +kernel) (by decide +kernel)
set_option maxRecDepth 20000 in
theorem gX3_builderAt_X0_holderOf : GoodIn wsX3_builderAt (wsV RX3 79 RX0 yX0_holderOf wsX0_holderOf) := goodIn_app (goodIn_of _ (by decide +kernel)) ggX3_builderAt_X0_holderOf
theorem dX3_builderAt_0 : decode cX3_builderAt 0 = .ok (.aload_n 0, 1) := by decide +kernel
theorem dX3_builderAt_1 : decode cX3_builderAt 1 = .ok (.iload_n 1, 1) := by decide +kernel
theorem dX3_builderAt_2 : decode cX3_builderAt 2 = .ok (.invokevirtual 53, 3) := by decide +kernel
theorem dX3_builderAt_5 : decode cX3_builderAt 5 = .ok (.aload_n 0, 1) := by decide +kernel
theorem dX3_builderAt_6 : decode cX3_builderAt 6 = .ok (.getfield 12, 3) := by decide +kernel
theorem dX3_builderAt_9 : decode cX3_builderAt 9 = .ok (.iload_n 1, 1) := by decide +kernel
theorem dX3_builderAt_10 : decode cX3_builderAt 10 = .ok (.invokevirtual 79, 3) := by decide +kernel
theorem dX3_builderAt_13 : decode cX3_builderAt 13 = .ok (.ireturn, 1) := by decide +kernel
theorem dX3_played_0 : decode cX3_played 0 = .ok (.aload_n 0, 1) := by decide +kernel
theorem dX3_played_1 : decode cX3_played 1 = .ok (.getfield 12, 3) := by decide +kernel
theorem dX3_played_4 : decode cX3_played 4 = .ok (.getfield 95, 3) := by decide +kernel
theorem dX3_played_7 : decode cX3_played 7 = .ok (.ireturn, 1) := by decide +kernel
set_option maxRecDepth 20000 in
theorem ggX3_turnCount_X3_requireAllPlaced : GoodIn wsX3_turnCount wsX3_requireAllPlaced := goodIn_ca (goodIn_r _ [7, 8, 9, 1, 10, 11, 12, 13, 14, 15, 16, 90, 91, 92, 95, 96, 97, 98, 99, 100, 101, 102, 103, 104, 105, 106, 107] (by decide +kernel) (by decide +kernel)) (goodIn_sub (fun _ h => List.mem_cons_of_mem _ (List.mem_append_right _ h)) (by decide +kernel))
set_option maxRecDepth 20000 in
theorem gX3_turnCount_X3_requireAllPlaced : GoodIn wsX3_turnCount (wsV RX3 98 RX3 yX3_requireAllPlaced wsX3_requireAllPlaced) := goodIn_app (goodIn_of _ (by decide +kernel)) ggX3_turnCount_X3_requireAllPlaced
set_option maxRecDepth 20000 in
theorem ggX3_turnCount_X0_listTurns : GoodIn wsX3_turnCount wsX0_listTurns := goodIn_r _ [20, 21, 22, 16, 23, 24, 25, 26, 27, 28, 29, 30, 31, 32, 13, 33, 34, 35, 36, 37, 38, 39, 40, 41, 42, 43, 44, 45, 46, 47, 48, 49, 50, 51, 52, 53, 54, 55, 56, 57, 58, 59, 60, 61, 62, 63, 64, 65, 66, 67, 68, 69, 70, 71, 72, 73, 74, 75, 76, 77, 78, 79, 80, 81, 82, 83, 84, 85, 86, 87, 88, 89, 95, 96, 97, 98, 99, 100, 101, 102, 103, 104, 105, 106, 107, 93, 94] (by decide +kernel) (by decide +kernel)
set_option maxRecDepth 20000 in
theorem gX3_turnCount_X0_listTurns : GoodIn wsX3_turnCount (wsV RX3 101 RX0 yX0_listTurns wsX0_listTurns) := goodIn_app (goodIn_of _ (by decide +kernel)) ggX3_turnCount_X0_listTurns
theorem dX3_turnCount_0 : decode cX3_turnCount 0 = .ok (.aload_n 0, 1) := by decide +kernel
theorem dX3_turnCount_1 : decode cX3_turnCount 1 = .ok (.invokevirtual 98, 3) := by decide +kernel
theorem dX3_turnCount_4 : decode cX3_turnCount 4 = .ok (.aload_n 0, 1) := by decide +kernel
theorem dX3_turnCount_5 : decode cX3_turnCount 5 = .ok (.getfield 12, 3) := by decide +kernel
theorem dX3_turnCount_8 : decode cX3_turnCount 8 = .ok (.aload_n 0, 1) := by decide +kernel
theorem dX3_turnCount_9 : decode cX3_turnCount 9 = .ok (.getfield 19, 3) := by decide +kernel
theorem dX3_turnCount_12 : decode cX3_turnCount 12 = .ok (.invokevirtual 101, 3) := by decide +kernel
theorem dX3_turnCount_15 : decode cX3_turnCount 15 = .ok (.aload_n 0, 1) := by decide +kernel
theorem dX3_turnCount_16 : decode cX3_turnCount 16 = .ok (.getfield 19, 3) := by decide +kernel
theorem dX3_turnCount_19 : decode cX3_turnCount 19 = .ok (.getfield 105, 3) := by decide +kernel
theorem dX3_turnCount_22 : decode cX3_turnCount 22 = .ok (.ireturn, 1) := by decide +kernel
set_option maxRecDepth 20000 in
theorem ggX3_turnAt_X3_requireAllPlaced : GoodIn wsX3_turnAt wsX3_requireAllPlaced := goodIn_ca (goodIn_r _ [9, 10, 11, 3, 12, 13, 14, 15, 16, 17, 18, 99, 100, 101, 104, 105, 106, 107, 108, 109, 110, 111, 112, 113, 114, 115, 116] (by decide +kernel) (by decide +kernel)) (goodIn_sub (fun _ h => List.mem_cons_of_mem _ (List.mem_append_right _ h)) (by decide +kernel))
set_option maxRecDepth 20000 in
theorem gX3_turnAt_X3_requireAllPlaced : GoodIn wsX3_turnAt (wsV RX3 98 RX3 yX3_requireAllPlaced wsX3_requireAllPlaced) := goodIn_app (goodIn_of _ (by decide +kernel)) ggX3_turnAt_X3_requireAllPlaced
set_option maxRecDepth 20000 in
theorem ggX3_turnAt_X0_listTurns : GoodIn wsX3_turnAt wsX0_listTurns := goodIn_r _ [22, 23, 24, 18, 25, 26, 27, 28, 29, 30, 31, 32, 33, 34, 15, 35, 36, 37, 38, 39, 40, 41, 42, 43, 44, 45, 46, 47, 48, 49, 50, 51, 52, 53, 54, 55, 56, 57, 58, 59, 60, 61, 62, 63, 64, 65, 66, 67, 68, 69, 70, 71, 72, 73, 74, 75, 76, 77, 78, 79, 80, 81, 82, 83, 84, 85, 86, 87, 88, 89, 90, 91, 104, 105, 106, 107, 108, 109, 110, 111, 112, 113, 114, 115, 116, 102, 103] (by decide +kernel) (by decide +kernel)
set_option maxRecDepth 20000 in
theorem gX3_turnAt_X0_listTurns : GoodIn wsX3_turnAt (wsV RX3 101 RX0 yX0_listTurns wsX0_listTurns) := goodIn_app (goodIn_of _ (by decide +kernel)) ggX3_turnAt_X0_listTurns
set_option maxRecDepth 20000 in
theorem ggX3_turnAt_X3_isOutside : GoodIn wsX3_turnAt wsX3_isOutside := goodIn_r _ [94] (by decide +kernel) (by decide +kernel)
set_option maxRecDepth 20000 in
theorem gX3_turnAt_X3_isOutside : GoodIn wsX3_turnAt (va_wsS RX3 34 yX3_isOutside wsX3_isOutside) := goodIn_app (goodIn_of _ (by decide +kernel)) ggX3_turnAt_X3_isOutside
set_option maxRecDepth 20000 in
theorem ggX3_turnAt_X2_at : GoodIn wsX3_turnAt wsX2_at := goodIn_r _ [98, 91, 102, 103] (by decide +kernel) (by decide +kernel)
set_option maxRecDepth 20000 in
theorem gX3_turnAt_X2_at : GoodIn wsX3_turnAt (wsV RX3 113 RX2 yX2_at wsX2_at) := goodIn_app (goodIn_of _ (by decide +kernel)) ggX3_turnAt_X2_at
theorem dX3_turnAt_0 : decode cX3_turnAt 0 = .ok (.aload_n 0, 1) := by decide +kernel
theorem dX3_turnAt_1 : decode cX3_turnAt 1 = .ok (.invokevirtual 98, 3) := by decide +kernel
theorem dX3_turnAt_4 : decode cX3_turnAt 4 = .ok (.aload_n 0, 1) := by decide +kernel
theorem dX3_turnAt_5 : decode cX3_turnAt 5 = .ok (.getfield 12, 3) := by decide +kernel
theorem dX3_turnAt_8 : decode cX3_turnAt 8 = .ok (.aload_n 0, 1) := by decide +kernel
theorem dX3_turnAt_9 : decode cX3_turnAt 9 = .ok (.getfield 19, 3) := by decide +kernel
theorem dX3_turnAt_12 : decode cX3_turnAt 12 = .ok (.invokevirtual 101, 3) := by decide +kernel
theorem dX3_turnAt_15 : decode cX3_turnAt 15 = .ok (.iload_n 1, 1) := by decide +kernel
theorem dX3_turnAt_16 : decode cX3_turnAt 16 = .ok (.iconst 0, 1) := by decide +kernel
theorem dX3_turnAt_17 : decode cX3_turnAt 17 = .ok (.aload_n 0, 1) := by decide +kernel
theorem dX3_turnAt_18 : decode cX3_turnAt 18 = .ok (.getfield 19, 3) := by decide +kernel
theorem dX3_turnAt_21 : decode cX3_turnAt 21 = .ok (.getfield 105, 3) := by decide +kernel
theorem dX3_turnAt_24 : decode cX3_turnAt 24 = .ok (.iconst 1, 1) := by decide +kernel
theorem dX3_turnAt_25 : decode cX3_turnAt 25 = .ok (.isub, 1) := by decide +kernel
theorem dX3_turnAt_26 : decode cX3_turnAt 26 = .ok (.invokestatic 34, 3) := by decide +kernel
theorem dX3_turnAt_29 : decode cX3_turnAt 29 = .ok (.ifCond .eq 13, 3) := by decide +kernel
theorem dX3_turnAt_32 : decode cX3_turnAt 32 = .ok (.new 108, 3) := by decide +kernel
theorem dX3_turnAt_35 : decode cX3_turnAt 35 = .ok (.dup, 1) := by decide +kernel
theorem dX3_turnAt_36 : decode cX3_turnAt 36 = .ok (.ldc 110, 2) := by decide +kernel
theorem dX3_turnAt_38 : decode cX3_turnAt 38 = .ok (.invokespecial 112, 3) := by decide +kernel
theorem dX3_turnAt_41 : decode cX3_turnAt 41 = .ok (.athrow, 1) := by decide +kernel
theorem dX3_turnAt_42 : decode cX3_turnAt 42 = .ok (.aload_n 0, 1) := by decide +kernel
theorem dX3_turnAt_43 : decode cX3_turnAt 43 = .ok (.getfield 19, 3) := by decide +kernel
theorem dX3_turnAt_46 : decode cX3_turnAt 46 = .ok (.iload_n 1, 1) := by decide +kernel
theorem dX3_turnAt_47 : decode cX3_turnAt 47 = .ok (.invokevirtual 113, 3) := by decide +kernel
theorem dX3_turnAt_50 : decode cX3_turnAt 50 = .ok (.ireturn, 1) := by decide +kernel
set_option maxRecDepth 20000 in
theorem ggX3_play_X3_requireAllPlaced : GoodIn wsX3_play wsX3_requireAllPlaced := goodIn_ca (goodIn_r _ [9, 1, 2, 3, 10, 11, 12, 13, 14, 15, 16, 137, 138, 139, 140, 141, 142, 143, 144, 145, 146, 147, 148, 149, 150, 151, 152] (by decide +kernel) (by decide +kernel)) (goodIn_sub (fun _ h => List.mem_cons_of_mem _ (List.mem_append_right _ h)) (by decide +kernel))
set_option maxRecDepth 20000 in
theorem gX3_play_X3_requireAllPlaced : GoodIn wsX3_play (wsV RX3 98 RX3 yX3_requireAllPlaced wsX3_requireAllPlaced) := goodIn_app (goodIn_of _ (by decide +kernel)) ggX3_play_X3_requireAllPlaced
set_option maxRecDepth 20000 in
theorem ggX3_play_X0_listTurns : GoodIn wsX3_play wsX0_listTurns := goodIn_r _ [20, 21, 22, 16, 23, 24, 25, 26, 27, 28, 29, 30, 31, 32, 13, 33, 34, 35, 36, 37, 38, 39, 40, 41, 42, 43, 44, 45, 46, 47, 48, 49, 50, 51, 52, 53, 54, 55, 56, 57, 58, 59, 60, 61, 62, 63, 64, 65, 66, 67, 68, 69, 70, 71, 72, 73, 74, 75, 76, 77, 78, 79, 80, 81, 82, 83, 84, 85, 86, 87, 88, 89, 140, 141, 142, 143, 144, 145, 146, 147, 148, 149, 150, 151, 152, 153, 154] (by decide +kernel) (by decide +kernel)
set_option maxRecDepth 20000 in
theorem gX3_play_X0_listTurns : GoodIn wsX3_play (wsV RX3 101 RX0 yX0_listTurns wsX0_listTurns) := goodIn_app (goodIn_of _ (by decide +kernel)) ggX3_play_X0_listTurns
set_option maxRecDepth 20000 in
theorem ggX3_play_X2_holds : GoodIn wsX3_play wsX2_holds := goodIn_r _ [93, 29, 94, 95, 96, 27, 97, 89, 153, 154] (by decide +kernel) (by decide +kernel)
set_option maxRecDepth 20000 in
theorem gX3_play_X2_holds : GoodIn wsX3_play (wsV RX3 116 RX2 yX2_holds wsX2_holds) := goodIn_app (goodIn_of _ (by decide +kernel)) ggX3_play_X2_holds
set_option maxRecDepth 20000 in
theorem ggX3_play_X0_perform : GoodIn wsX3_play wsX0_perform := goodIn_r _ [101, 22, 43, 21, 30, 31, 32, 13, 33, 34, 102, 103, 104, 77, 78, 79, 80, 58, 59, 60, 61, 62, 67, 68, 69, 70, 71, 72, 105, 106, 107, 108, 109, 110, 111, 112, 49, 50, 51, 52, 53, 113, 114, 115, 116, 117, 118, 119, 120, 121, 122, 123, 124, 125, 126, 127, 128, 129, 130, 131, 132, 16, 39, 40, 41, 42, 44, 45, 46, 47, 48, 54, 55, 56, 57, 63, 64, 65, 66, 133, 134, 135, 136, 81, 82, 83, 84, 140, 141, 142, 143, 144, 145, 146, 147, 148, 149, 150, 151, 152] (by decide +kernel) (by decide +kernel)
set_option maxRecDepth 20000 in
theorem gX3_play_X0_perform : GoodIn wsX3_play (wsV RX3 121 RX0 yX0_perform wsX0_perform) := goodIn_app (goodIn_of _ (by decide +kernel)) ggX3_play_X0_perform
theorem dX3_play_0 : decode cX3_play 0 = .ok (.aload_n 0, 1) := by decide +kernel
theorem dX3_play_1 : decode cX3_play 1 = .ok (.invokevirtual 98, 3) := by decide +kernel
theorem dX3_play_4 : decode cX3_play 4 = .ok (.aload_n 0, 1) := by decide +kernel
theorem dX3_play_5 : decode cX3_play 5 = .ok (.getfield 12, 3) := by decide +kernel
theorem dX3_play_8 : decode cX3_play 8 = .ok (.aload_n 0, 1) := by decide +kernel
theorem dX3_play_9 : decode cX3_play 9 = .ok (.getfield 19, 3) := by decide +kernel
theorem dX3_play_12 : decode cX3_play 12 = .ok (.invokevirtual 101, 3) := by decide +kernel
theorem dX3_play_15 : decode cX3_play 15 = .ok (.aload_n 0, 1) := by decide +kernel
theorem dX3_play_16 : decode cX3_play 16 = .ok (.getfield 19, 3) := by decide +kernel
theorem dX3_play_19 : decode cX3_play 19 = .ok (.iload_n 1, 1) := by decide +kernel
theorem dX3_play_20 : decode cX3_play 20 = .ok (.invokevirtual 116, 3) := by decide +kernel
theorem dX3_play_23 : decode cX3_play 23 = .ok (.ifCond .ne 13, 3) := by decide +kernel
theorem dX3_play_26 : decode cX3_play 26 = .ok (.new 65, 3) := by decide +kernel
theorem dX3_play_29 : decode cX3_play 29 = .ok (.dup, 1) := by decide +kernel
theorem dX3_play_30 : decode cX3_play 30 = .ok (.ldc 119, 2) := by decide +kernel
theorem dX3_play_32 : decode cX3_play 32 = .ok (.invokespecial 69, 3) := by decide +kernel
theorem dX3_play_35 : decode cX3_play 35 = .ok (.athrow, 1) := by decide +kernel
theorem dX3_play_36 : decode cX3_play 36 = .ok (.aload_n 0, 1) := by decide +kernel
theorem dX3_play_37 : decode cX3_play 37 = .ok (.getfield 12, 3) := by decide +kernel
theorem dX3_play_40 : decode cX3_play 40 = .ok (.iload_n 1, 1) := by decide +kernel
theorem dX3_play_41 : decode cX3_play 41 = .ok (.invokevirtual 121, 3) := by decide +kernel
theorem dX3_play_44 : decode cX3_play 44 = .ok (.aload_n 0, 1) := by decide +kernel
theorem dX3_play_45 : decode cX3_play 45 = .ok (.getfield 12, 3) := by decide +kernel
theorem dX3_play_48 : decode cX3_play 48 = .ok (.getfield 92, 3) := by decide +kernel
theorem dX3_play_51 : decode cX3_play 51 = .ok (.ireturn, 1) := by decide +kernel
set_option maxRecDepth 20000 in
theorem ggX3_takeBack_X0_undo : GoodIn wsX3_takeBack wsX0_undo := goodIn_r _ [8, 9, 10, 11, 12, 13, 14, 7, 15, 16, 17, 18, 19, 20, 21, 22, 23, 24, 25, 26, 27, 28, 29, 30, 31, 32, 33, 34, 35, 36, 37, 38, 39, 40, 41, 45, 46, 47, 48, 49, 50, 51, 52, 53, 54, 55, 56, 57] (by decide +kernel) (by decide +kernel)
set_option maxRecDepth 20000 in
theorem gX3_takeBack_X0_undo : GoodIn wsX3_takeBack (wsV RX3 126 RX0 yX0_undo wsX0_undo) := goodIn_app (goodIn_of _ (by decide +kernel)) ggX3_takeBack_X0_undo
theorem dX3_takeBack_0 : decode cX3_takeBack 0 = .ok (.aload_n 0, 1) := by decide +kernel
theorem dX3_takeBack_1 : decode cX3_takeBack 1 = .ok (.getfield 12, 3) := by decide +kernel
theorem dX3_takeBack_4 : decode cX3_takeBack 4 = .ok (.getfield 95, 3) := by decide +kernel
theorem dX3_takeBack_7 : decode cX3_takeBack 7 = .ok (.ifCond .ne 13, 3) := by decide +kernel
theorem dX3_takeBack_10 : decode cX3_takeBack 10 = .ok (.new 65, 3) := by decide +kernel
theorem dX3_takeBack_13 : decode cX3_takeBack 13 = .ok (.dup, 1) := by decide +kernel
theorem dX3_takeBack_14 : decode cX3_takeBack 14 = .ok (.ldc 124, 2) := by decide +kernel
theorem dX3_takeBack_16 : decode cX3_takeBack 16 = .ok (.invokespecial 69, 3) := by decide +kernel
theorem dX3_takeBack_19 : decode cX3_takeBack 19 = .ok (.athrow, 1) := by decide +kernel
theorem dX3_takeBack_20 : decode cX3_takeBack 20 = .ok (.aload_n 0, 1) := by decide +kernel
theorem dX3_takeBack_21 : decode cX3_takeBack 21 = .ok (.getfield 12, 3) := by decide +kernel
theorem dX3_takeBack_24 : decode cX3_takeBack 24 = .ok (.invokevirtual 126, 3) := by decide +kernel
theorem dX3_takeBack_27 : decode cX3_takeBack 27 = .ok (.aload_n 0, 1) := by decide +kernel
theorem dX3_takeBack_28 : decode cX3_takeBack 28 = .ok (.getfield 12, 3) := by decide +kernel
theorem dX3_takeBack_31 : decode cX3_takeBack 31 = .ok (.getfield 95, 3) := by decide +kernel
theorem dX3_takeBack_34 : decode cX3_takeBack 34 = .ok (.ireturn, 1) := by decide +kernel
set_option maxRecDepth 20000 in
theorem ggX3_worth_X3_requireAhead : GoodIn wsX3_worth wsX3_requireAhead := goodIn_ca (goodIn_ca (goodIn_r _ [7, 8, 9, 10, 11, 2, 12, 13, 6, 14, 15, 16, 17, 18, 19, 20, 21, 22, 23, 24, 25, 170, 171, 172, 173, 174, 175, 176, 177, 178, 179, 180, 181, 182, 183, 184, 185] (by decide +kernel) (by decide +kernel)) (goodIn_sub (fun _ h => List.mem_cons_of_mem _ (List.mem_append_left _ (List.mem_append_right _ h))) (by decide +kernel))) (goodIn_sub (fun _ h => List.mem_cons_of_mem _ (List.mem_append_right _ h)) (by decide +kernel))
set_option maxRecDepth 20000 in
theorem gX3_worth_X3_requireAhead : GoodIn wsX3_worth (wsV RX3 129 RX3 yX3_requireAhead wsX3_requireAhead) := goodIn_app (goodIn_of _ (by decide +kernel)) ggX3_worth_X3_requireAhead
set_option maxRecDepth 20000 in
theorem ggX3_worth_X1_look : GoodIn wsX3_worth wsX1_look := goodIn_r _ [29, 30, 31, 32, 33, 34, 35, 36, 27, 37, 38, 39, 40, 41, 42, 43, 22, 44, 45, 46, 25, 47, 48, 49, 50, 51, 52, 53, 54, 55, 56, 57, 58, 59, 60, 61, 62, 63, 64, 65, 66, 67, 68, 69, 70, 71, 72, 73, 74, 75, 76, 77, 78, 79, 80, 81, 82, 83, 84, 85, 86, 87, 88, 89, 90, 91, 92, 93, 94, 95, 96, 97, 98, 99, 100, 101, 102, 103, 104, 105, 106, 107, 108, 109, 110, 111, 112, 113, 114, 115, 116, 117, 118, 119, 120, 121, 122, 123, 124, 125, 126, 127, 128, 129, 130, 131, 132, 133, 134, 135, 136, 137, 138, 139, 140, 141, 142, 143, 144, 145, 146, 147, 148, 149, 150, 151, 152, 153, 154, 155, 156, 157, 158, 159, 160, 161, 26, 28, 162, 163, 164, 165, 166, 167, 168, 169, 186, 187, 188, 189, 190, 173, 174, 175, 176, 177, 178, 179, 180, 181, 182, 183, 184, 185] (by decide +kernel) (by decide +kernel)
set_option maxRecDepth 20000 in
theorem gX3_worth_X1_look_n132 : GoodIn wsX3_worth (wsX1_look) := ggX3_worth_X1_look
theorem dX3_worth_0 : decode cX3_worth 0 = .ok (.aload_n 0, 1) := by decide +kernel
theorem dX3_worth_1 : decode cX3_worth 1 = .ok (.iload_n 1, 1) := by decide +kernel
theorem dX3_worth_2 : decode cX3_worth 2 = .ok (.iconst 0, 1) := by decide +kernel
theorem dX3_worth_3 : decode cX3_worth 3 = .ok (.invokevirtual 129, 3) := by decide +kernel
theorem dX3_worth_6 : decode cX3_worth 6 = .ok (.aload_n 0, 1) := by decide +kernel
theorem dX3_worth_7 : decode cX3_worth 7 = .ok (.getfield 26, 3) := by decide +kernel
theorem dX3_worth_10 : decode cX3_worth 10 = .ok (.aload_n 0, 1) := by decide +kernel
theorem dX3_worth_11 : decode cX3_worth 11 = .ok (.getfield 12, 3) := by decide +kernel
theorem dX3_worth_14 : decode cX3_worth 14 = .ok (.iload_n 1, 1) := by decide +kernel
theorem dX3_worth_15 : decode cX3_worth 15 = .ok (.invokevirtual 132, 3) := by decide +kernel
theorem dX3_worth_18 : decode cX3_worth 18 = .ok (.ireturn, 1) := by decide +kernel
set_option maxRecDepth 20000 in
theorem ggX3_best_X3_requireAhead : GoodIn wsX3_best wsX3_requireAhead := goodIn_ca (goodIn_ca (goodIn_r _ [8, 9, 10, 11, 12, 2, 13, 14, 7, 15, 16, 17, 18, 19, 20, 21, 22, 23, 24, 25, 26, 173, 174, 175, 178, 179, 180, 181, 182, 183, 184, 185, 186, 187, 188, 189, 190] (by decide +kernel) (by decide +kernel)) (goodIn_sub (fun _ h => List.mem_cons_of_mem _ (List.mem_append_left _ (List.mem_append_right _ h))) (by decide +kernel))) (goodIn_sub (fun _ h => List.mem_cons_of_mem _ (List.mem_append_right _ h)) (by decide +kernel))
set_option maxRecDepth 20000 in
theorem gX3_best_X3_requireAhead : GoodIn wsX3_best (wsV RX3 129 RX3 yX3_requireAhead wsX3_requireAhead) := goodIn_app (goodIn_of _ (by decide +kernel)) ggX3_best_X3_requireAhead
set_option maxRecDepth 20000 in
theorem ggX3_best_X1_look : GoodIn wsX3_best wsX1_look := goodIn_r _ [30, 31, 32, 33, 34, 35, 36, 37, 28, 38, 39, 40, 41, 42, 43, 44, 23, 45, 46, 47, 26, 48, 49, 50, 51, 52, 53, 54, 55, 56, 57, 58, 59, 60, 61, 62, 63, 64, 65, 66, 67, 68, 69, 70, 71, 72, 73, 74, 75, 76, 77, 78, 79, 80, 81, 82, 83, 84, 85, 86, 87, 88, 89, 90, 91, 92, 93, 94, 95, 96, 97, 98, 99, 100, 101, 102, 103, 104, 105, 106, 107, 108, 109, 110, 111, 112, 113, 114, 115, 116, 117, 118, 119, 120, 121, 122, 123, 124, 125, 126, 127, 128, 129, 130, 131, 132, 133, 134, 135, 136, 137, 138, 139, 140, 141, 142, 143, 144, 145, 146, 147, 148, 149, 150, 151, 152, 153, 154, 155, 156, 157, 158, 159, 160, 161, 162, 27, 29, 163, 164, 165, 166, 167, 168, 169, 170, 176, 177, 191, 192, 193, 178, 179, 180, 181, 182, 183, 184, 185, 186, 187, 188, 189, 190] (by decide +kernel) (by decide +kernel)
set_option maxRecDepth 20000 in
theorem gX3_best_X1_look_n132 : GoodIn wsX3_best (wsX1_look) := ggX3_best_X1_look
set_option maxRecDepth 20000 in
theorem ggX3_best_X0_listTurns : GoodIn wsX3_best wsX0_listTurns := goodIn_r _ [45, 46, 47, 26, 48, 49, 50, 51, 52, 53, 54, 55, 56, 57, 23, 58, 59, 60, 61, 62, 63, 64, 65, 66, 67, 68, 69, 70, 71, 72, 73, 74, 75, 76, 77, 78, 79, 80, 81, 82, 83, 84, 85, 86, 87, 88, 89, 90, 91, 92, 93, 94, 95, 96, 97, 98, 99, 100, 101, 102, 103, 104, 105, 106, 107, 108, 109, 110, 111, 112, 113, 114, 178, 179, 180, 181, 182, 183, 184, 185, 186, 187, 188, 189, 190, 176, 177] (by decide +kernel) (by decide +kernel)
set_option maxRecDepth 20000 in
theorem gX3_best_X0_listTurns : GoodIn wsX3_best (wsV RX3 101 RX0 yX0_listTurns wsX0_listTurns) := goodIn_app (goodIn_of _ (by decide +kernel)) ggX3_best_X0_listTurns
set_option maxRecDepth 20000 in
theorem ggX3_best_X2_at : GoodIn wsX3_best wsX2_at := goodIn_r _ [118, 114, 176, 177] (by decide +kernel) (by decide +kernel)
set_option maxRecDepth 20000 in
theorem gX3_best_X2_at : GoodIn wsX3_best (wsV RX3 113 RX2 yX2_at wsX2_at) := goodIn_app (goodIn_of _ (by decide +kernel)) ggX3_best_X2_at
set_option maxRecDepth 20000 in
theorem ggX3_best_X1_worthOf : GoodIn wsX3_best wsX1_worthOf := goodIn_r _ [122, 123, 124, 125, 23, 126, 47, 68, 46, 55, 56, 57, 58, 59, 127, 128, 129, 102, 103, 104, 105, 83, 84, 85, 86, 87, 92, 93, 94, 95, 96, 97, 130, 131, 132, 133, 134, 135, 136, 137, 74, 75, 76, 77, 78, 138, 139, 140, 141, 142, 143, 144, 145, 146, 147, 148, 149, 150, 151, 152, 153, 154, 155, 156, 157, 26, 64, 65, 66, 67, 69, 70, 71, 72, 73, 79, 80, 81, 82, 88, 89, 90, 91, 158, 159, 160, 161, 106, 107, 108, 109, 162, 27, 29, 28, 163, 164, 165, 166, 167, 168, 169, 170, 30, 31, 32, 33, 34, 35, 36, 37, 38, 39, 40, 41, 42, 43, 44, 45, 48, 49, 50, 51, 52, 53, 54, 60, 61, 62, 63, 98, 99, 100, 101, 110, 111, 112, 113, 114, 115, 116, 117, 118, 119, 120, 121, 176, 177, 191, 192, 193, 178, 179, 180, 181, 182, 183, 184, 185, 186, 187, 188, 189, 190] (by decide +kernel) (by decide +kernel)
set_option maxRecDepth 20000 in
theorem gX3_best_X1_worthOf_n136 : GoodIn wsX3_best (wsX1_worthOf) := ggX3_best_X1_worthOf
theorem dX3_best_0 : decode cX3_best 0 = .ok (.aload_n 0, 1) := by decide +kernel
theorem dX3_best_1 : decode cX3_best 1 = .ok (.iload_n 1, 1) := by decide +kernel
theorem dX3_best_2 : decode cX3_best 2 = .ok (.iconst 1, 1) := by decide +kernel
theorem dX3_best_3 : decode cX3_best 3 = .ok (.invokevirtual 129, 3) := by decide +kernel
theorem dX3_best_6 : decode cX3_best 6 = .ok (.aload_n 0, 1) := by decide +kernel
theorem dX3_best_7 : decode cX3_best 7 = .ok (.getfield 26, 3) := by decide +kernel
theorem dX3_best_10 : decode cX3_best 10 = .ok (.aload_n 0, 1) := by decide +kernel
theorem dX3_best_11 : decode cX3_best 11 = .ok (.getfield 12, 3) := by decide +kernel
theorem dX3_best_14 : decode cX3_best 14 = .ok (.iload_n 1, 1) := by decide +kernel
theorem dX3_best_15 : decode cX3_best 15 = .ok (.invokevirtual 132, 3) := by decide +kernel
theorem dX3_best_18 : decode cX3_best 18 = .ok (.istore_n 2, 1) := by decide +kernel
theorem dX3_best_19 : decode cX3_best 19 = .ok (.aload_n 0, 1) := by decide +kernel
theorem dX3_best_20 : decode cX3_best 20 = .ok (.getfield 12, 3) := by decide +kernel
theorem dX3_best_23 : decode cX3_best 23 = .ok (.aload_n 0, 1) := by decide +kernel
theorem dX3_best_24 : decode cX3_best 24 = .ok (.getfield 19, 3) := by decide +kernel
theorem dX3_best_27 : decode cX3_best 27 = .ok (.invokevirtual 101, 3) := by decide +kernel
theorem dX3_best_30 : decode cX3_best 30 = .ok (.iconst 0, 1) := by decide +kernel
theorem dX3_best_31 : decode cX3_best 31 = .ok (.istore_n 3, 1) := by decide +kernel
theorem dX3_best_32 : decode cX3_best 32 = .ok (.iload_n 3, 1) := by decide +kernel
theorem dX3_best_33 : decode cX3_best 33 = .ok (.aload_n 0, 1) := by decide +kernel
theorem dX3_best_34 : decode cX3_best 34 = .ok (.getfield 19, 3) := by decide +kernel
theorem dX3_best_37 : decode cX3_best 37 = .ok (.getfield 105, 3) := by decide +kernel
theorem dX3_best_40 : decode cX3_best 40 = .ok (.if_icmp .ge 40, 3) := by decide +kernel
theorem dX3_best_43 : decode cX3_best 43 = .ok (.aload_n 0, 1) := by decide +kernel
theorem dX3_best_44 : decode cX3_best 44 = .ok (.getfield 19, 3) := by decide +kernel
theorem dX3_best_47 : decode cX3_best 47 = .ok (.iload_n 3, 1) := by decide +kernel
theorem dX3_best_48 : decode cX3_best 48 = .ok (.invokevirtual 113, 3) := by decide +kernel
theorem dX3_best_51 : decode cX3_best 51 = .ok (.istore 4, 2) := by decide +kernel
theorem dX3_best_53 : decode cX3_best 53 = .ok (.aload_n 0, 1) := by decide +kernel
theorem dX3_best_54 : decode cX3_best 54 = .ok (.getfield 26, 3) := by decide +kernel
theorem dX3_best_57 : decode cX3_best 57 = .ok (.aload_n 0, 1) := by decide +kernel
theorem dX3_best_58 : decode cX3_best 58 = .ok (.getfield 12, 3) := by decide +kernel
theorem dX3_best_61 : decode cX3_best 61 = .ok (.iload 4, 2) := by decide +kernel
theorem dX3_best_63 : decode cX3_best 63 = .ok (.iload_n 1, 1) := by decide +kernel
theorem dX3_best_64 : decode cX3_best 64 = .ok (.invokevirtual 136, 3) := by decide +kernel
theorem dX3_best_67 : decode cX3_best 67 = .ok (.iload_n 2, 1) := by decide +kernel
theorem dX3_best_68 : decode cX3_best 68 = .ok (.if_icmp .ne 6, 3) := by decide +kernel
theorem dX3_best_71 : decode cX3_best 71 = .ok (.iload 4, 2) := by decide +kernel
theorem dX3_best_73 : decode cX3_best 73 = .ok (.ireturn, 1) := by decide +kernel
theorem dX3_best_74 : decode cX3_best 74 = .ok (.iinc 3 1, 3) := by decide +kernel
theorem dX3_best_77 : decode cX3_best 77 = .ok (.goto (-45), 3) := by decide +kernel
theorem dX3_best_80 : decode cX3_best 80 = .ok (.iconst (-1), 1) := by decide +kernel
theorem dX3_best_81 : decode cX3_best 81 = .ok (.ireturn, 1) := by decide +kernel
set_option maxRecDepth 20000 in
theorem ggX3_reached_X3_isOutside : GoodIn wsX3_reached wsX3_isOutside := goodIn_r _ [7] (by decide +kernel) (by decide +kernel)
set_option maxRecDepth 20000 in
theorem gX3_reached_X3_isOutside : GoodIn wsX3_reached (va_wsS RX3 34 yX3_isOutside wsX3_isOutside) := goodIn_app (goodIn_of _ (by decide +kernel)) ggX3_reached_X3_isOutside
set_option maxRecDepth 20000 in
theorem ggX3_reached_X0_storeysUnder : GoodIn wsX3_reached wsX0_storeysUnder := goodIn_r _ [12, 13, 14, 15, 16, 11, 17, 18, 19, 20, 21, 22, 23, 27, 28, 29, 30, 31, 32, 33, 34, 35, 36, 37, 38, 39] (by decide +kernel) (by decide +kernel)
set_option maxRecDepth 20000 in
theorem gX3_reached_X0_storeysUnder : GoodIn wsX3_reached (wsV RX3 142 RX0 yX0_storeysUnder wsX0_storeysUnder) := goodIn_app (goodIn_of _ (by decide +kernel)) ggX3_reached_X0_storeysUnder
theorem dX3_reached_0 : decode cX3_reached 0 = .ok (.iload_n 1, 1) := by decide +kernel
theorem dX3_reached_1 : decode cX3_reached 1 = .ok (.iconst 0, 1) := by decide +kernel
theorem dX3_reached_2 : decode cX3_reached 2 = .ok (.iconst 1, 1) := by decide +kernel
theorem dX3_reached_3 : decode cX3_reached 3 = .ok (.invokestatic 34, 3) := by decide +kernel
theorem dX3_reached_6 : decode cX3_reached 6 = .ok (.ifCond .eq 13, 3) := by decide +kernel
theorem dX3_reached_9 : decode cX3_reached 9 = .ok (.new 108, 3) := by decide +kernel
theorem dX3_reached_12 : decode cX3_reached 12 = .ok (.dup, 1) := by decide +kernel
theorem dX3_reached_13 : decode cX3_reached 13 = .ok (.ldc 140, 2) := by decide +kernel
theorem dX3_reached_15 : decode cX3_reached 15 = .ok (.invokespecial 112, 3) := by decide +kernel
theorem dX3_reached_18 : decode cX3_reached 18 = .ok (.athrow, 1) := by decide +kernel
theorem dX3_reached_19 : decode cX3_reached 19 = .ok (.aload_n 0, 1) := by decide +kernel
theorem dX3_reached_20 : decode cX3_reached 20 = .ok (.getfield 12, 3) := by decide +kernel
theorem dX3_reached_23 : decode cX3_reached 23 = .ok (.iload_n 1, 1) := by decide +kernel
theorem dX3_reached_24 : decode cX3_reached 24 = .ok (.invokevirtual 142, 3) := by decide +kernel
theorem dX3_reached_27 : decode cX3_reached 27 = .ok (.ireturn, 1) := by decide +kernel
theorem dX3_isOutside_0 : decode cX3_isOutside 0 = .ok (.iload_n 0, 1) := by decide +kernel
theorem dX3_isOutside_1 : decode cX3_isOutside 1 = .ok (.iload_n 1, 1) := by decide +kernel
theorem dX3_isOutside_2 : decode cX3_isOutside 2 = .ok (.if_icmp .lt 8, 3) := by decide +kernel
theorem dX3_isOutside_5 : decode cX3_isOutside 5 = .ok (.iload_n 0, 1) := by decide +kernel
theorem dX3_isOutside_6 : decode cX3_isOutside 6 = .ok (.iload_n 2, 1) := by decide +kernel
theorem dX3_isOutside_7 : decode cX3_isOutside 7 = .ok (.if_icmp .le 7, 3) := by decide +kernel
theorem dX3_isOutside_10 : decode cX3_isOutside 10 = .ok (.iconst 1, 1) := by decide +kernel
theorem dX3_isOutside_11 : decode cX3_isOutside 11 = .ok (.goto 4, 3) := by decide +kernel
theorem dX3_isOutside_14 : decode cX3_isOutside 14 = .ok (.iconst 0, 1) := by decide +kernel
theorem dX3_isOutside_15 : decode cX3_isOutside 15 = .ok (.ireturn, 1) := by decide +kernel
set_option maxRecDepth 20000 in
theorem ggX3_requireCell_X3_isOutside : GoodIn wsX3_requireCell wsX3_isOutside := goodIn_r _ [7] (by decide +kernel) (by decide +kernel)
set_option maxRecDepth 20000 in
theorem gX3_requireCell_X3_isOutside : GoodIn wsX3_requireCell (va_wsS RX3 34 yX3_isOutside wsX3_isOutside) := goodIn_app (goodIn_of _ (by decide +kernel)) ggX3_requireCell_X3_isOutside
theorem dX3_requireCell_0 : decode cX3_requireCell 0 = .ok (.iload_n 1, 1) := by decide +kernel
theorem dX3_requireCell_1 : decode cX3_requireCell 1 = .ok (.iconst 0, 1) := by decide +kernel
theorem dX3_requireCell_2 : decode cX3_requireCell 2 = .ok (.aload_n 0, 1) := by decide +kernel
theorem dX3_requireCell_3 : decode cX3_requireCell 3 = .ok (.getfield 12, 3) := by decide +kernel
theorem dX3_requireCell_6 : decode cX3_requireCell 6 = .ok (.getfield 49, 3) := by decide +kernel
theorem dX3_requireCell_9 : decode cX3_requireCell 9 = .ok (.iconst 1, 1) := by decide +kernel
theorem dX3_requireCell_10 : decode cX3_requireCell 10 = .ok (.isub, 1) := by decide +kernel
theorem dX3_requireCell_11 : decode cX3_requireCell 11 = .ok (.invokestatic 34, 3) := by decide +kernel
theorem dX3_requireCell_14 : decode cX3_requireCell 14 = .ok (.ifCond .eq 13, 3) := by decide +kernel
theorem dX3_requireCell_17 : decode cX3_requireCell 17 = .ok (.new 108, 3) := by decide +kernel
theorem dX3_requireCell_20 : decode cX3_requireCell 20 = .ok (.dup, 1) := by decide +kernel
theorem dX3_requireCell_21 : decode cX3_requireCell 21 = .ok (.ldc 145, 2) := by decide +kernel
theorem dX3_requireCell_23 : decode cX3_requireCell 23 = .ok (.invokespecial 112, 3) := by decide +kernel
theorem dX3_requireCell_26 : decode cX3_requireCell 26 = .ok (.athrow, 1) := by decide +kernel
theorem dX3_requireCell_27 : decode cX3_requireCell 27 = .ok (.return_, 1) := by decide +kernel
set_option maxRecDepth 20000 in
theorem ggX3_requireAllPlaced_X0_isSet : GoodIn wsX3_requireAllPlaced wsX0_isSet := goodIn_r _ [8, 9, 10, 14, 15, 16, 17, 18, 19, 20, 21, 22, 23, 24, 25, 26] (by decide +kernel) (by decide +kernel)
set_option maxRecDepth 20000 in
theorem gX3_requireAllPlaced_X0_isSet : GoodIn wsX3_requireAllPlaced (wsV RX3 57 RX0 yX0_isSet wsX0_isSet) := goodIn_app (goodIn_of _ (by decide +kernel)) ggX3_requireAllPlaced_X0_isSet
theorem dX3_requireAllPlaced_0 : decode cX3_requireAllPlaced 0 = .ok (.aload_n 0, 1) := by decide +kernel
theorem dX3_requireAllPlaced_1 : decode cX3_requireAllPlaced 1 = .ok (.getfield 12, 3) := by decide +kernel
theorem dX3_requireAllPlaced_4 : decode cX3_requireAllPlaced 4 = .ok (.invokevirtual 57, 3) := by decide +kernel
theorem dX3_requireAllPlaced_7 : decode cX3_requireAllPlaced 7 = .ok (.ifCond .ne 13, 3) := by decide +kernel
theorem dX3_requireAllPlaced_10 : decode cX3_requireAllPlaced 10 = .ok (.new 65, 3) := by decide +kernel
theorem dX3_requireAllPlaced_13 : decode cX3_requireAllPlaced 13 = .ok (.dup, 1) := by decide +kernel
theorem dX3_requireAllPlaced_14 : decode cX3_requireAllPlaced 14 = .ok (.ldc 147, 2) := by decide +kernel
theorem dX3_requireAllPlaced_16 : decode cX3_requireAllPlaced 16 = .ok (.invokespecial 69, 3) := by decide +kernel
theorem dX3_requireAllPlaced_19 : decode cX3_requireAllPlaced 19 = .ok (.athrow, 1) := by decide +kernel
theorem dX3_requireAllPlaced_20 : decode cX3_requireAllPlaced 20 = .ok (.return_, 1) := by decide +kernel
set_option maxRecDepth 20000 in
theorem ggX3_requireAhead_X3_isOutside : GoodIn wsX3_requireAhead wsX3_isOutside := goodIn_r _ [9] (by decide +kernel) (by decide +kernel)
set_option maxRecDepth 20000 in
theorem gX3_requireAhead_X3_isOutside : GoodIn wsX3_requireAhead (va_wsS RX3 34 yX3_isOutside wsX3_isOutside) := goodIn_app (goodIn_of _ (by decide +kernel)) ggX3_requireAhead_X3_isOutside
set_option maxRecDepth 20000 in
theorem ggX3_requireAhead_X3_requireAllPlaced : GoodIn wsX3_requireAhead wsX3_requireAllPlaced := goodIn_ca (goodIn_r _ [13, 3, 4, 5, 14, 15, 16, 17, 18, 19, 20, 21, 22, 23, 24, 25, 26, 27, 28, 29, 30, 31, 32, 33, 34, 35, 36] (by decide +kernel) (by decide +kernel)) (goodIn_sub (fun _ h => List.mem_cons_of_mem _ (List.mem_append_right _ h)) (by decide +kernel))
set_option maxRecDepth 20000 in
theorem gX3_requireAhead_X3_requireAllPlaced : GoodIn wsX3_requireAhead (wsV RX3 98 RX3 yX3_requireAllPlaced wsX3_requireAllPlaced) := goodIn_app (goodIn_of _ (by decide +kernel)) ggX3_requireAhead_X3_requireAllPlaced
theorem dX3_requireAhead_0 : decode cX3_requireAhead 0 = .ok (.iload_n 1, 1) := by decide +kernel
theorem dX3_requireAhead_1 : decode cX3_requireAhead 1 = .ok (.iload_n 2, 1) := by decide +kernel
theorem dX3_requireAhead_2 : decode cX3_requireAhead 2 = .ok (.iconst 3, 1) := by decide +kernel
theorem dX3_requireAhead_3 : decode cX3_requireAhead 3 = .ok (.invokestatic 34, 3) := by decide +kernel
theorem dX3_requireAhead_6 : decode cX3_requireAhead 6 = .ok (.ifCond .eq 13, 3) := by decide +kernel
theorem dX3_requireAhead_9 : decode cX3_requireAhead 9 = .ok (.new 38, 3) := by decide +kernel
theorem dX3_requireAhead_12 : decode cX3_requireAhead 12 = .ok (.dup, 1) := by decide +kernel
theorem dX3_requireAhead_13 : decode cX3_requireAhead 13 = .ok (.ldc 149, 2) := by decide +kernel
theorem dX3_requireAhead_15 : decode cX3_requireAhead 15 = .ok (.invokespecial 42, 3) := by decide +kernel
theorem dX3_requireAhead_18 : decode cX3_requireAhead 18 = .ok (.athrow, 1) := by decide +kernel
theorem dX3_requireAhead_19 : decode cX3_requireAhead 19 = .ok (.aload_n 0, 1) := by decide +kernel
theorem dX3_requireAhead_20 : decode cX3_requireAhead 20 = .ok (.invokevirtual 98, 3) := by decide +kernel
theorem dX3_requireAhead_23 : decode cX3_requireAhead 23 = .ok (.aload_n 0, 1) := by decide +kernel
theorem dX3_requireAhead_24 : decode cX3_requireAhead 24 = .ok (.getfield 12, 3) := by decide +kernel
theorem dX3_requireAhead_27 : decode cX3_requireAhead 27 = .ok (.getfield 92, 3) := by decide +kernel
theorem dX3_requireAhead_30 : decode cX3_requireAhead 30 = .ok (.iconst (-1), 1) := by decide +kernel
theorem dX3_requireAhead_31 : decode cX3_requireAhead 31 = .ok (.if_icmp .eq 13, 3) := by decide +kernel
theorem dX3_requireAhead_34 : decode cX3_requireAhead 34 = .ok (.new 65, 3) := by decide +kernel
theorem dX3_requireAhead_37 : decode cX3_requireAhead 37 = .ok (.dup, 1) := by decide +kernel
theorem dX3_requireAhead_38 : decode cX3_requireAhead 38 = .ok (.ldc 151, 2) := by decide +kernel
theorem dX3_requireAhead_40 : decode cX3_requireAhead 40 = .ok (.invokespecial 69, 3) := by decide +kernel
theorem dX3_requireAhead_43 : decode cX3_requireAhead 43 = .ok (.athrow, 1) := by decide +kernel
theorem dX3_requireAhead_44 : decode cX3_requireAhead 44 = .ok (.iload_n 1, 1) := by decide +kernel
theorem dX3_requireAhead_45 : decode cX3_requireAhead 45 = .ok (.iconst 3, 1) := by decide +kernel
theorem dX3_requireAhead_46 : decode cX3_requireAhead 46 = .ok (.if_icmp .ne 25, 3) := by decide +kernel
theorem dX3_requireAhead_49 : decode cX3_requireAhead 49 = .ok (.aload_n 0, 1) := by decide +kernel
theorem dX3_requireAhead_50 : decode cX3_requireAhead 50 = .ok (.getfield 12, 3) := by decide +kernel
theorem dX3_requireAhead_53 : decode cX3_requireAhead 53 = .ok (.getfield 49, 3) := by decide +kernel
theorem dX3_requireAhead_56 : decode cX3_requireAhead 56 = .ok (.bipush 8, 2) := by decide +kernel
theorem dX3_requireAhead_58 : decode cX3_requireAhead 58 = .ok (.if_icmp .le 13, 3) := by decide +kernel
theorem dX3_requireAhead_61 : decode cX3_requireAhead 61 = .ok (.new 65, 3) := by decide +kernel
theorem dX3_requireAhead_64 : decode cX3_requireAhead 64 = .ok (.dup, 1) := by decide +kernel
theorem dX3_requireAhead_65 : decode cX3_requireAhead 65 = .ok (.ldc 153, 2) := by decide +kernel
theorem dX3_requireAhead_67 : decode cX3_requireAhead 67 = .ok (.invokespecial 69, 3) := by decide +kernel
theorem dX3_requireAhead_70 : decode cX3_requireAhead 70 = .ok (.athrow, 1) := by decide +kernel
theorem dX3_requireAhead_71 : decode cX3_requireAhead 71 = .ok (.return_, 1) := by decide +kernel
