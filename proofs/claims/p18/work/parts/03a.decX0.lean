theorem dX0_init_0 : decode cX0_init 0 = .ok (.aload_n 0, 1) := by decide +kernel
theorem dX0_init_1 : decode cX0_init 1 = .ok (.invokespecial 3, 3) := by decide +kernel
theorem dX0_init_4 : decode cX0_init 4 = .ok (.aload_n 0, 1) := by decide +kernel
theorem dX0_init_5 : decode cX0_init 5 = .ok (.sipush 200, 3) := by decide +kernel
theorem dX0_init_8 : decode cX0_init 8 = .ok (.newarray .int, 2) := by decide +kernel
theorem dX0_init_10 : decode cX0_init 10 = .ok (.putfield 11, 3) := by decide +kernel
theorem dX0_init_13 : decode cX0_init 13 = .ok (.aload_n 0, 1) := by decide +kernel
theorem dX0_init_14 : decode cX0_init 14 = .ok (.bipush 25, 2) := by decide +kernel
theorem dX0_init_16 : decode cX0_init 16 = .ok (.newarray .int, 2) := by decide +kernel
theorem dX0_init_18 : decode cX0_init 18 = .ok (.putfield 15, 3) := by decide +kernel
theorem dX0_init_21 : decode cX0_init 21 = .ok (.aload_n 0, 1) := by decide +kernel
theorem dX0_init_22 : decode cX0_init 22 = .ok (.bipush 25, 2) := by decide +kernel
theorem dX0_init_24 : decode cX0_init 24 = .ok (.newarray .int, 2) := by decide +kernel
theorem dX0_init_26 : decode cX0_init 26 = .ok (.putfield 18, 3) := by decide +kernel
theorem dX0_init_29 : decode cX0_init 29 = .ok (.aload_n 0, 1) := by decide +kernel
theorem dX0_init_30 : decode cX0_init 30 = .ok (.iconst 4, 1) := by decide +kernel
theorem dX0_init_31 : decode cX0_init 31 = .ok (.newarray .int, 2) := by decide +kernel
theorem dX0_init_33 : decode cX0_init 33 = .ok (.putfield 21, 3) := by decide +kernel
theorem dX0_init_36 : decode cX0_init 36 = .ok (.aload_n 0, 1) := by decide +kernel
theorem dX0_init_37 : decode cX0_init 37 = .ok (.sipush 505, 3) := by decide +kernel
theorem dX0_init_40 : decode cX0_init 40 = .ok (.newarray .int, 2) := by decide +kernel
theorem dX0_init_42 : decode cX0_init 42 = .ok (.putfield 24, 3) := by decide +kernel
theorem dX0_init_45 : decode cX0_init 45 = .ok (.return_, 1) := by decide +kernel
set_option maxRecDepth 20000 in
theorem ggX0_start_J7_fill_53178 : GoodIn wsX0_start wsJ7_fill_53178 := goodIn_r _ [15] (by decide +kernel) (by decide +kernel)
set_option maxRecDepth 20000 in
theorem gX0_start_J7_fill_53178 : GoodIn wsX0_start (va_wsS RX0 53 yJ7_fill_53178 wsJ7_fill_53178) := goodIn_app (goodIn_of _ (by decide +kernel)) ggX0_start_J7_fill_53178
set_option maxRecDepth 20000 in
theorem ggX0_start_X0_joinNeighbours : GoodIn wsX0_start wsX0_joinNeighbours := goodIn_r _ [20, 21, 22, 23, 24, 25, 26, 27, 28, 29, 30, 31, 32, 33, 34, 35, 36] (by decide +kernel) (by decide +kernel)
set_option maxRecDepth 20000 in
theorem gX0_start_X0_joinNeighbours : GoodIn wsX0_start (wsV RX0 59 RX0 yX0_joinNeighbours wsX0_joinNeighbours) := goodIn_app (goodIn_of _ (by decide +kernel)) ggX0_start_X0_joinNeighbours
theorem dX0_start_0 : decode cX0_start 0 = .ok (.aload_n 0, 1) := by decide +kernel
theorem dX0_start_1 : decode cX0_start 1 = .ok (.iload_n 1, 1) := by decide +kernel
theorem dX0_start_2 : decode cX0_start 2 = .ok (.iload_n 2, 1) := by decide +kernel
theorem dX0_start_3 : decode cX0_start 3 = .ok (.imul, 1) := by decide +kernel
theorem dX0_start_4 : decode cX0_start 4 = .ok (.putfield 27, 3) := by decide +kernel
theorem dX0_start_7 : decode cX0_start 7 = .ok (.aload_n 0, 1) := by decide +kernel
theorem dX0_start_8 : decode cX0_start 8 = .ok (.iload_n 3, 1) := by decide +kernel
theorem dX0_start_9 : decode cX0_start 9 = .ok (.putfield 31, 3) := by decide +kernel
theorem dX0_start_12 : decode cX0_start 12 = .ok (.aload_n 0, 1) := by decide +kernel
theorem dX0_start_13 : decode cX0_start 13 = .ok (.iload 4, 2) := by decide +kernel
theorem dX0_start_15 : decode cX0_start 15 = .ok (.putfield 34, 3) := by decide +kernel
theorem dX0_start_18 : decode cX0_start 18 = .ok (.aload_n 0, 1) := by decide +kernel
theorem dX0_start_19 : decode cX0_start 19 = .ok (.iload 5, 2) := by decide +kernel
theorem dX0_start_21 : decode cX0_start 21 = .ok (.putfield 37, 3) := by decide +kernel
theorem dX0_start_24 : decode cX0_start 24 = .ok (.aload_n 0, 1) := by decide +kernel
theorem dX0_start_25 : decode cX0_start 25 = .ok (.iconst 0, 1) := by decide +kernel
theorem dX0_start_26 : decode cX0_start 26 = .ok (.putfield 40, 3) := by decide +kernel
theorem dX0_start_29 : decode cX0_start 29 = .ok (.aload_n 0, 1) := by decide +kernel
theorem dX0_start_30 : decode cX0_start 30 = .ok (.iconst 0, 1) := by decide +kernel
theorem dX0_start_31 : decode cX0_start 31 = .ok (.putfield 43, 3) := by decide +kernel
theorem dX0_start_34 : decode cX0_start 34 = .ok (.aload_n 0, 1) := by decide +kernel
theorem dX0_start_35 : decode cX0_start 35 = .ok (.iconst (-1), 1) := by decide +kernel
theorem dX0_start_36 : decode cX0_start 36 = .ok (.putfield 46, 3) := by decide +kernel
theorem dX0_start_39 : decode cX0_start 39 = .ok (.aload_n 0, 1) := by decide +kernel
theorem dX0_start_40 : decode cX0_start 40 = .ok (.iconst 0, 1) := by decide +kernel
theorem dX0_start_41 : decode cX0_start 41 = .ok (.putfield 49, 3) := by decide +kernel
theorem dX0_start_44 : decode cX0_start 44 = .ok (.aload_n 0, 1) := by decide +kernel
theorem dX0_start_45 : decode cX0_start 45 = .ok (.getfield 15, 3) := by decide +kernel
theorem dX0_start_48 : decode cX0_start 48 = .ok (.iconst 0, 1) := by decide +kernel
theorem dX0_start_49 : decode cX0_start 49 = .ok (.invokestatic 53, 3) := by decide +kernel
theorem dX0_start_52 : decode cX0_start 52 = .ok (.aload_n 0, 1) := by decide +kernel
theorem dX0_start_53 : decode cX0_start 53 = .ok (.getfield 18, 3) := by decide +kernel
theorem dX0_start_56 : decode cX0_start 56 = .ok (.iconst (-1), 1) := by decide +kernel
theorem dX0_start_57 : decode cX0_start 57 = .ok (.invokestatic 53, 3) := by decide +kernel
theorem dX0_start_60 : decode cX0_start 60 = .ok (.aload_n 0, 1) := by decide +kernel
theorem dX0_start_61 : decode cX0_start 61 = .ok (.getfield 21, 3) := by decide +kernel
theorem dX0_start_64 : decode cX0_start 64 = .ok (.iconst (-1), 1) := by decide +kernel
theorem dX0_start_65 : decode cX0_start 65 = .ok (.invokestatic 53, 3) := by decide +kernel
theorem dX0_start_68 : decode cX0_start 68 = .ok (.iconst 0, 1) := by decide +kernel
theorem dX0_start_69 : decode cX0_start 69 = .ok (.istore 6, 2) := by decide +kernel
theorem dX0_start_71 : decode cX0_start 71 = .ok (.iload 6, 2) := by decide +kernel
theorem dX0_start_73 : decode cX0_start 73 = .ok (.iload_n 1, 1) := by decide +kernel
theorem dX0_start_74 : decode cX0_start 74 = .ok (.if_icmp .ge 34, 3) := by decide +kernel
theorem dX0_start_77 : decode cX0_start 77 = .ok (.iconst 0, 1) := by decide +kernel
theorem dX0_start_78 : decode cX0_start 78 = .ok (.istore 7, 2) := by decide +kernel
theorem dX0_start_80 : decode cX0_start 80 = .ok (.iload 7, 2) := by decide +kernel
theorem dX0_start_82 : decode cX0_start 82 = .ok (.iload_n 2, 1) := by decide +kernel
theorem dX0_start_83 : decode cX0_start 83 = .ok (.if_icmp .ge 19, 3) := by decide +kernel
theorem dX0_start_86 : decode cX0_start 86 = .ok (.aload_n 0, 1) := by decide +kernel
theorem dX0_start_87 : decode cX0_start 87 = .ok (.iload 6, 2) := by decide +kernel
theorem dX0_start_89 : decode cX0_start 89 = .ok (.iload 7, 2) := by decide +kernel
theorem dX0_start_91 : decode cX0_start 91 = .ok (.iload_n 1, 1) := by decide +kernel
theorem dX0_start_92 : decode cX0_start 92 = .ok (.iload_n 2, 1) := by decide +kernel
theorem dX0_start_93 : decode cX0_start 93 = .ok (.invokevirtual 59, 3) := by decide +kernel
theorem dX0_start_96 : decode cX0_start 96 = .ok (.iinc 7 1, 3) := by decide +kernel
theorem dX0_start_99 : decode cX0_start 99 = .ok (.goto (-19), 3) := by decide +kernel
theorem dX0_start_102 : decode cX0_start 102 = .ok (.iinc 6 1, 3) := by decide +kernel
theorem dX0_start_105 : decode cX0_start 105 = .ok (.goto (-34), 3) := by decide +kernel
theorem dX0_start_108 : decode cX0_start 108 = .ok (.return_, 1) := by decide +kernel
theorem dX0_joinNeighbours_0 : decode cX0_joinNeighbours 0 = .ok (.iconst 0, 1) := by decide +kernel
theorem dX0_joinNeighbours_1 : decode cX0_joinNeighbours 1 = .ok (.istore 5, 2) := by decide +kernel
theorem dX0_joinNeighbours_3 : decode cX0_joinNeighbours 3 = .ok (.iload 5, 2) := by decide +kernel
theorem dX0_joinNeighbours_5 : decode cX0_joinNeighbours 5 = .ok (.bipush 8, 2) := by decide +kernel
theorem dX0_joinNeighbours_7 : decode cX0_joinNeighbours 7 = .ok (.if_icmp .ge 112, 3) := by decide +kernel
theorem dX0_joinNeighbours_10 : decode cX0_joinNeighbours 10 = .ok (.iload_n 1, 1) := by decide +kernel
theorem dX0_joinNeighbours_11 : decode cX0_joinNeighbours 11 = .ok (.getstatic 63, 3) := by decide +kernel
theorem dX0_joinNeighbours_14 : decode cX0_joinNeighbours 14 = .ok (.iload 5, 2) := by decide +kernel
theorem dX0_joinNeighbours_16 : decode cX0_joinNeighbours 16 = .ok (.iaload, 1) := by decide +kernel
theorem dX0_joinNeighbours_17 : decode cX0_joinNeighbours 17 = .ok (.iadd, 1) := by decide +kernel
theorem dX0_joinNeighbours_18 : decode cX0_joinNeighbours 18 = .ok (.istore 6, 2) := by decide +kernel
theorem dX0_joinNeighbours_20 : decode cX0_joinNeighbours 20 = .ok (.iload_n 2, 1) := by decide +kernel
theorem dX0_joinNeighbours_21 : decode cX0_joinNeighbours 21 = .ok (.getstatic 66, 3) := by decide +kernel
theorem dX0_joinNeighbours_24 : decode cX0_joinNeighbours 24 = .ok (.iload 5, 2) := by decide +kernel
theorem dX0_joinNeighbours_26 : decode cX0_joinNeighbours 26 = .ok (.iaload, 1) := by decide +kernel
theorem dX0_joinNeighbours_27 : decode cX0_joinNeighbours 27 = .ok (.iadd, 1) := by decide +kernel
theorem dX0_joinNeighbours_28 : decode cX0_joinNeighbours 28 = .ok (.istore 7, 2) := by decide +kernel
theorem dX0_joinNeighbours_30 : decode cX0_joinNeighbours 30 = .ok (.iload 6, 2) := by decide +kernel
theorem dX0_joinNeighbours_32 : decode cX0_joinNeighbours 32 = .ok (.ifCond .lt 25, 3) := by decide +kernel
theorem dX0_joinNeighbours_35 : decode cX0_joinNeighbours 35 = .ok (.iload 6, 2) := by decide +kernel
theorem dX0_joinNeighbours_37 : decode cX0_joinNeighbours 37 = .ok (.iload_n 3, 1) := by decide +kernel
theorem dX0_joinNeighbours_38 : decode cX0_joinNeighbours 38 = .ok (.if_icmp .ge 19, 3) := by decide +kernel
theorem dX0_joinNeighbours_41 : decode cX0_joinNeighbours 41 = .ok (.iload 7, 2) := by decide +kernel
theorem dX0_joinNeighbours_43 : decode cX0_joinNeighbours 43 = .ok (.ifCond .lt 14, 3) := by decide +kernel
theorem dX0_joinNeighbours_46 : decode cX0_joinNeighbours 46 = .ok (.iload 7, 2) := by decide +kernel
theorem dX0_joinNeighbours_48 : decode cX0_joinNeighbours 48 = .ok (.iload 4, 2) := by decide +kernel
theorem dX0_joinNeighbours_50 : decode cX0_joinNeighbours 50 = .ok (.if_icmp .ge 7, 3) := by decide +kernel
theorem dX0_joinNeighbours_53 : decode cX0_joinNeighbours 53 = .ok (.iconst 1, 1) := by decide +kernel
theorem dX0_joinNeighbours_54 : decode cX0_joinNeighbours 54 = .ok (.goto 4, 3) := by decide +kernel
theorem dX0_joinNeighbours_57 : decode cX0_joinNeighbours 57 = .ok (.iconst 0, 1) := by decide +kernel
theorem dX0_joinNeighbours_58 : decode cX0_joinNeighbours 58 = .ok (.istore 8, 2) := by decide +kernel
theorem dX0_joinNeighbours_60 : decode cX0_joinNeighbours 60 = .ok (.iload_n 1, 1) := by decide +kernel
theorem dX0_joinNeighbours_61 : decode cX0_joinNeighbours 61 = .ok (.iload 4, 2) := by decide +kernel
theorem dX0_joinNeighbours_63 : decode cX0_joinNeighbours 63 = .ok (.imul, 1) := by decide +kernel
theorem dX0_joinNeighbours_64 : decode cX0_joinNeighbours 64 = .ok (.iload_n 2, 1) := by decide +kernel
theorem dX0_joinNeighbours_65 : decode cX0_joinNeighbours 65 = .ok (.iadd, 1) := by decide +kernel
theorem dX0_joinNeighbours_66 : decode cX0_joinNeighbours 66 = .ok (.bipush 8, 2) := by decide +kernel
theorem dX0_joinNeighbours_68 : decode cX0_joinNeighbours 68 = .ok (.imul, 1) := by decide +kernel
theorem dX0_joinNeighbours_69 : decode cX0_joinNeighbours 69 = .ok (.iload 5, 2) := by decide +kernel
theorem dX0_joinNeighbours_71 : decode cX0_joinNeighbours 71 = .ok (.iadd, 1) := by decide +kernel
theorem dX0_joinNeighbours_72 : decode cX0_joinNeighbours 72 = .ok (.istore 9, 2) := by decide +kernel
theorem dX0_joinNeighbours_74 : decode cX0_joinNeighbours 74 = .ok (.iload 9, 2) := by decide +kernel
theorem dX0_joinNeighbours_76 : decode cX0_joinNeighbours 76 = .ok (.ifCond .lt 37, 3) := by decide +kernel
theorem dX0_joinNeighbours_79 : decode cX0_joinNeighbours 79 = .ok (.iload 9, 2) := by decide +kernel
theorem dX0_joinNeighbours_81 : decode cX0_joinNeighbours 81 = .ok (.aload_n 0, 1) := by decide +kernel
theorem dX0_joinNeighbours_82 : decode cX0_joinNeighbours 82 = .ok (.getfield 11, 3) := by decide +kernel
theorem dX0_joinNeighbours_85 : decode cX0_joinNeighbours 85 = .ok (.arraylength, 1) := by decide +kernel
theorem dX0_joinNeighbours_86 : decode cX0_joinNeighbours 86 = .ok (.if_icmp .ge 27, 3) := by decide +kernel
theorem dX0_joinNeighbours_89 : decode cX0_joinNeighbours 89 = .ok (.aload_n 0, 1) := by decide +kernel
theorem dX0_joinNeighbours_90 : decode cX0_joinNeighbours 90 = .ok (.getfield 11, 3) := by decide +kernel
theorem dX0_joinNeighbours_93 : decode cX0_joinNeighbours 93 = .ok (.iload 9, 2) := by decide +kernel
theorem dX0_joinNeighbours_95 : decode cX0_joinNeighbours 95 = .ok (.iload 8, 2) := by decide +kernel
theorem dX0_joinNeighbours_97 : decode cX0_joinNeighbours 97 = .ok (.ifCond .eq 14, 3) := by decide +kernel
theorem dX0_joinNeighbours_100 : decode cX0_joinNeighbours 100 = .ok (.iload 6, 2) := by decide +kernel
theorem dX0_joinNeighbours_102 : decode cX0_joinNeighbours 102 = .ok (.iload 4, 2) := by decide +kernel
theorem dX0_joinNeighbours_104 : decode cX0_joinNeighbours 104 = .ok (.imul, 1) := by decide +kernel
theorem dX0_joinNeighbours_105 : decode cX0_joinNeighbours 105 = .ok (.iload 7, 2) := by decide +kernel
theorem dX0_joinNeighbours_107 : decode cX0_joinNeighbours 107 = .ok (.iadd, 1) := by decide +kernel
theorem dX0_joinNeighbours_108 : decode cX0_joinNeighbours 108 = .ok (.goto 4, 3) := by decide +kernel
theorem dX0_joinNeighbours_111 : decode cX0_joinNeighbours 111 = .ok (.iconst (-1), 1) := by decide +kernel
theorem dX0_joinNeighbours_112 : decode cX0_joinNeighbours 112 = .ok (.iastore, 1) := by decide +kernel
theorem dX0_joinNeighbours_113 : decode cX0_joinNeighbours 113 = .ok (.iinc 5 1, 3) := by decide +kernel
theorem dX0_joinNeighbours_116 : decode cX0_joinNeighbours 116 = .ok (.goto (-113), 3) := by decide +kernel
theorem dX0_joinNeighbours_119 : decode cX0_joinNeighbours 119 = .ok (.return_, 1) := by decide +kernel
theorem dX0_storeysOf_0 : decode cX0_storeysOf 0 = .ok (.iload_n 1, 1) := by decide +kernel
theorem dX0_storeysOf_1 : decode cX0_storeysOf 1 = .ok (.ifCond .lt 21, 3) := by decide +kernel
theorem dX0_storeysOf_4 : decode cX0_storeysOf 4 = .ok (.iload_n 1, 1) := by decide +kernel
theorem dX0_storeysOf_5 : decode cX0_storeysOf 5 = .ok (.aload_n 0, 1) := by decide +kernel
theorem dX0_storeysOf_6 : decode cX0_storeysOf 6 = .ok (.getfield 15, 3) := by decide +kernel
theorem dX0_storeysOf_9 : decode cX0_storeysOf 9 = .ok (.arraylength, 1) := by decide +kernel
theorem dX0_storeysOf_10 : decode cX0_storeysOf 10 = .ok (.if_icmp .ge 12, 3) := by decide +kernel
theorem dX0_storeysOf_13 : decode cX0_storeysOf 13 = .ok (.aload_n 0, 1) := by decide +kernel
theorem dX0_storeysOf_14 : decode cX0_storeysOf 14 = .ok (.getfield 15, 3) := by decide +kernel
theorem dX0_storeysOf_17 : decode cX0_storeysOf 17 = .ok (.iload_n 1, 1) := by decide +kernel
theorem dX0_storeysOf_18 : decode cX0_storeysOf 18 = .ok (.iaload, 1) := by decide +kernel
theorem dX0_storeysOf_19 : decode cX0_storeysOf 19 = .ok (.goto 4, 3) := by decide +kernel
theorem dX0_storeysOf_22 : decode cX0_storeysOf 22 = .ok (.iconst 0, 1) := by decide +kernel
theorem dX0_storeysOf_23 : decode cX0_storeysOf 23 = .ok (.ireturn, 1) := by decide +kernel
theorem dX0_holderOf_0 : decode cX0_holderOf 0 = .ok (.iload_n 1, 1) := by decide +kernel
theorem dX0_holderOf_1 : decode cX0_holderOf 1 = .ok (.ifCond .lt 21, 3) := by decide +kernel
theorem dX0_holderOf_4 : decode cX0_holderOf 4 = .ok (.iload_n 1, 1) := by decide +kernel
theorem dX0_holderOf_5 : decode cX0_holderOf 5 = .ok (.aload_n 0, 1) := by decide +kernel
theorem dX0_holderOf_6 : decode cX0_holderOf 6 = .ok (.getfield 18, 3) := by decide +kernel
theorem dX0_holderOf_9 : decode cX0_holderOf 9 = .ok (.arraylength, 1) := by decide +kernel
theorem dX0_holderOf_10 : decode cX0_holderOf 10 = .ok (.if_icmp .ge 12, 3) := by decide +kernel
theorem dX0_holderOf_13 : decode cX0_holderOf 13 = .ok (.aload_n 0, 1) := by decide +kernel
theorem dX0_holderOf_14 : decode cX0_holderOf 14 = .ok (.getfield 18, 3) := by decide +kernel
theorem dX0_holderOf_17 : decode cX0_holderOf 17 = .ok (.iload_n 1, 1) := by decide +kernel
theorem dX0_holderOf_18 : decode cX0_holderOf 18 = .ok (.iaload, 1) := by decide +kernel
theorem dX0_holderOf_19 : decode cX0_holderOf 19 = .ok (.goto 4, 3) := by decide +kernel
theorem dX0_holderOf_22 : decode cX0_holderOf 22 = .ok (.iconst (-1), 1) := by decide +kernel
theorem dX0_holderOf_23 : decode cX0_holderOf 23 = .ok (.ireturn, 1) := by decide +kernel
theorem dX0_isOpen_0 : decode cX0_isOpen 0 = .ok (.iload_n 1, 1) := by decide +kernel
theorem dX0_isOpen_1 : decode cX0_isOpen 1 = .ok (.ifCond .lt 33, 3) := by decide +kernel
theorem dX0_isOpen_4 : decode cX0_isOpen 4 = .ok (.iload_n 1, 1) := by decide +kernel
theorem dX0_isOpen_5 : decode cX0_isOpen 5 = .ok (.bipush 25, 2) := by decide +kernel
theorem dX0_isOpen_7 : decode cX0_isOpen 7 = .ok (.if_icmp .ge 27, 3) := by decide +kernel
theorem dX0_isOpen_10 : decode cX0_isOpen 10 = .ok (.aload_n 0, 1) := by decide +kernel
theorem dX0_isOpen_11 : decode cX0_isOpen 11 = .ok (.getfield 18, 3) := by decide +kernel
theorem dX0_isOpen_14 : decode cX0_isOpen 14 = .ok (.iload_n 1, 1) := by decide +kernel
theorem dX0_isOpen_15 : decode cX0_isOpen 15 = .ok (.iaload, 1) := by decide +kernel
theorem dX0_isOpen_16 : decode cX0_isOpen 16 = .ok (.iconst (-1), 1) := by decide +kernel
theorem dX0_isOpen_17 : decode cX0_isOpen 17 = .ok (.if_icmp .ne 17, 3) := by decide +kernel
theorem dX0_isOpen_20 : decode cX0_isOpen 20 = .ok (.aload_n 0, 1) := by decide +kernel
theorem dX0_isOpen_21 : decode cX0_isOpen 21 = .ok (.getfield 15, 3) := by decide +kernel
theorem dX0_isOpen_24 : decode cX0_isOpen 24 = .ok (.iload_n 1, 1) := by decide +kernel
theorem dX0_isOpen_25 : decode cX0_isOpen 25 = .ok (.iaload, 1) := by decide +kernel
theorem dX0_isOpen_26 : decode cX0_isOpen 26 = .ok (.iconst 4, 1) := by decide +kernel
theorem dX0_isOpen_27 : decode cX0_isOpen 27 = .ok (.if_icmp .ge 7, 3) := by decide +kernel
theorem dX0_isOpen_30 : decode cX0_isOpen 30 = .ok (.iconst 1, 1) := by decide +kernel
theorem dX0_isOpen_31 : decode cX0_isOpen 31 = .ok (.goto 4, 3) := by decide +kernel
theorem dX0_isOpen_34 : decode cX0_isOpen 34 = .ok (.iconst 0, 1) := by decide +kernel
theorem dX0_isOpen_35 : decode cX0_isOpen 35 = .ok (.ireturn, 1) := by decide +kernel
theorem dX0_isSet_0 : decode cX0_isSet 0 = .ok (.aload_n 0, 1) := by decide +kernel
theorem dX0_isSet_1 : decode cX0_isSet 1 = .ok (.getfield 40, 3) := by decide +kernel
theorem dX0_isSet_4 : decode cX0_isSet 4 = .ok (.iconst 2, 1) := by decide +kernel
theorem dX0_isSet_5 : decode cX0_isSet 5 = .ok (.aload_n 0, 1) := by decide +kernel
theorem dX0_isSet_6 : decode cX0_isSet 6 = .ok (.getfield 31, 3) := by decide +kernel
theorem dX0_isSet_9 : decode cX0_isSet 9 = .ok (.imul, 1) := by decide +kernel
theorem dX0_isSet_10 : decode cX0_isSet 10 = .ok (.if_icmp .ne 7, 3) := by decide +kernel
theorem dX0_isSet_13 : decode cX0_isSet 13 = .ok (.iconst 1, 1) := by decide +kernel
theorem dX0_isSet_14 : decode cX0_isSet 14 = .ok (.goto 4, 3) := by decide +kernel
theorem dX0_isSet_17 : decode cX0_isSet 17 = .ok (.iconst 0, 1) := by decide +kernel
theorem dX0_isSet_18 : decode cX0_isSet 18 = .ok (.ireturn, 1) := by decide +kernel
set_option maxRecDepth 20000 in
theorem ggX0_mover_X0_isSet : GoodIn wsX0_mover wsX0_isSet := goodIn_r _ [9, 3, 4, 10, 11, 12, 13, 14, 15, 16, 17, 18, 19, 20, 21, 22] (by decide +kernel) (by decide +kernel)
set_option maxRecDepth 20000 in
theorem gX0_mover_X0_isSet : GoodIn wsX0_mover (wsV RX0 69 RX0 yX0_isSet wsX0_isSet) := goodIn_app (goodIn_of _ (by decide +kernel)) ggX0_mover_X0_isSet
theorem dX0_mover_0 : decode cX0_mover 0 = .ok (.aload_n 0, 1) := by decide +kernel
theorem dX0_mover_1 : decode cX0_mover 1 = .ok (.getfield 46, 3) := by decide +kernel
theorem dX0_mover_4 : decode cX0_mover 4 = .ok (.iconst (-1), 1) := by decide +kernel
theorem dX0_mover_5 : decode cX0_mover 5 = .ok (.if_icmp .eq 5, 3) := by decide +kernel
theorem dX0_mover_8 : decode cX0_mover 8 = .ok (.iconst (-1), 1) := by decide +kernel
theorem dX0_mover_9 : decode cX0_mover 9 = .ok (.ireturn, 1) := by decide +kernel
theorem dX0_mover_10 : decode cX0_mover 10 = .ok (.aload_n 0, 1) := by decide +kernel
theorem dX0_mover_11 : decode cX0_mover 11 = .ok (.invokevirtual 69, 3) := by decide +kernel
theorem dX0_mover_14 : decode cX0_mover 14 = .ok (.ifCond .eq 10, 3) := by decide +kernel
theorem dX0_mover_17 : decode cX0_mover 17 = .ok (.aload_n 0, 1) := by decide +kernel
theorem dX0_mover_18 : decode cX0_mover 18 = .ok (.getfield 43, 3) := by decide +kernel
theorem dX0_mover_21 : decode cX0_mover 21 = .ok (.iconst 2, 1) := by decide +kernel
theorem dX0_mover_22 : decode cX0_mover 22 = .ok (.irem, 1) := by decide +kernel
theorem dX0_mover_23 : decode cX0_mover 23 = .ok (.ireturn, 1) := by decide +kernel
theorem dX0_mover_24 : decode cX0_mover 24 = .ok (.aload_n 0, 1) := by decide +kernel
theorem dX0_mover_25 : decode cX0_mover 25 = .ok (.getfield 40, 3) := by decide +kernel
theorem dX0_mover_28 : decode cX0_mover 28 = .ok (.aload_n 0, 1) := by decide +kernel
theorem dX0_mover_29 : decode cX0_mover 29 = .ok (.getfield 31, 3) := by decide +kernel
theorem dX0_mover_32 : decode cX0_mover 32 = .ok (.if_icmp .ge 7, 3) := by decide +kernel
theorem dX0_mover_35 : decode cX0_mover 35 = .ok (.iconst 0, 1) := by decide +kernel
theorem dX0_mover_36 : decode cX0_mover 36 = .ok (.goto 4, 3) := by decide +kernel
theorem dX0_mover_39 : decode cX0_mover 39 = .ok (.iconst 1, 1) := by decide +kernel
theorem dX0_mover_40 : decode cX0_mover 40 = .ok (.ireturn, 1) := by decide +kernel
set_option maxRecDepth 20000 in
theorem ggX0_storeysUnder_X0_spotOf : GoodIn wsX0_storeysUnder wsX0_spotOf := goodIn_r _ [6, 7, 13, 14, 15, 16, 17, 18, 19, 20, 21, 22, 23, 24, 25] (by decide +kernel) (by decide +kernel)
set_option maxRecDepth 20000 in
theorem gX0_storeysUnder_X0_spotOf : GoodIn wsX0_storeysUnder (wsV RX0 73 RX0 yX0_spotOf wsX0_spotOf) := goodIn_app (goodIn_of _ (by decide +kernel)) ggX0_storeysUnder_X0_spotOf
set_option maxRecDepth 20000 in
theorem ggX0_storeysUnder_X0_storeysOf : GoodIn wsX0_storeysUnder wsX0_storeysOf := goodIn_r _ [11, 12, 13, 14, 15, 16, 17, 18, 19, 20, 21, 22, 23, 24, 25] (by decide +kernel) (by decide +kernel)
set_option maxRecDepth 20000 in
theorem gX0_storeysUnder_X0_storeysOf : GoodIn wsX0_storeysUnder (wsV RX0 77 RX0 yX0_storeysOf wsX0_storeysOf) := goodIn_app (goodIn_of _ (by decide +kernel)) ggX0_storeysUnder_X0_storeysOf
theorem dX0_storeysUnder_0 : decode cX0_storeysUnder 0 = .ok (.iconst 0, 1) := by decide +kernel
theorem dX0_storeysUnder_1 : decode cX0_storeysUnder 1 = .ok (.istore_n 2, 1) := by decide +kernel
theorem dX0_storeysUnder_2 : decode cX0_storeysUnder 2 = .ok (.iconst 0, 1) := by decide +kernel
theorem dX0_storeysUnder_3 : decode cX0_storeysUnder 3 = .ok (.istore_n 3, 1) := by decide +kernel
theorem dX0_storeysUnder_4 : decode cX0_storeysUnder 4 = .ok (.iload_n 3, 1) := by decide +kernel
theorem dX0_storeysUnder_5 : decode cX0_storeysUnder 5 = .ok (.aload_n 0, 1) := by decide +kernel
theorem dX0_storeysUnder_6 : decode cX0_storeysUnder 6 = .ok (.getfield 31, 3) := by decide +kernel
theorem dX0_storeysUnder_9 : decode cX0_storeysUnder 9 = .ok (.if_icmp .ge 22, 3) := by decide +kernel
theorem dX0_storeysUnder_12 : decode cX0_storeysUnder 12 = .ok (.iload_n 2, 1) := by decide +kernel
theorem dX0_storeysUnder_13 : decode cX0_storeysUnder 13 = .ok (.aload_n 0, 1) := by decide +kernel
theorem dX0_storeysUnder_14 : decode cX0_storeysUnder 14 = .ok (.aload_n 0, 1) := by decide +kernel
theorem dX0_storeysUnder_15 : decode cX0_storeysUnder 15 = .ok (.iload_n 1, 1) := by decide +kernel
theorem dX0_storeysUnder_16 : decode cX0_storeysUnder 16 = .ok (.iload_n 3, 1) := by decide +kernel
theorem dX0_storeysUnder_17 : decode cX0_storeysUnder 17 = .ok (.invokevirtual 73, 3) := by decide +kernel
theorem dX0_storeysUnder_20 : decode cX0_storeysUnder 20 = .ok (.invokevirtual 77, 3) := by decide +kernel
theorem dX0_storeysUnder_23 : decode cX0_storeysUnder 23 = .ok (.iadd, 1) := by decide +kernel
theorem dX0_storeysUnder_24 : decode cX0_storeysUnder 24 = .ok (.istore_n 2, 1) := by decide +kernel
theorem dX0_storeysUnder_25 : decode cX0_storeysUnder 25 = .ok (.iinc 3 1, 3) := by decide +kernel
theorem dX0_storeysUnder_28 : decode cX0_storeysUnder 28 = .ok (.goto (-24), 3) := by decide +kernel
theorem dX0_storeysUnder_31 : decode cX0_storeysUnder 31 = .ok (.iload_n 2, 1) := by decide +kernel
theorem dX0_storeysUnder_32 : decode cX0_storeysUnder 32 = .ok (.ireturn, 1) := by decide +kernel
theorem dX0_setStoreys_0 : decode cX0_setStoreys 0 = .ok (.iload_n 1, 1) := by decide +kernel
theorem dX0_setStoreys_1 : decode cX0_setStoreys 1 = .ok (.ifCond .lt 19, 3) := by decide +kernel
theorem dX0_setStoreys_4 : decode cX0_setStoreys 4 = .ok (.iload_n 1, 1) := by decide +kernel
theorem dX0_setStoreys_5 : decode cX0_setStoreys 5 = .ok (.aload_n 0, 1) := by decide +kernel
theorem dX0_setStoreys_6 : decode cX0_setStoreys 6 = .ok (.getfield 15, 3) := by decide +kernel
theorem dX0_setStoreys_9 : decode cX0_setStoreys 9 = .ok (.arraylength, 1) := by decide +kernel
theorem dX0_setStoreys_10 : decode cX0_setStoreys 10 = .ok (.if_icmp .ge 10, 3) := by decide +kernel
theorem dX0_setStoreys_13 : decode cX0_setStoreys 13 = .ok (.aload_n 0, 1) := by decide +kernel
theorem dX0_setStoreys_14 : decode cX0_setStoreys 14 = .ok (.getfield 15, 3) := by decide +kernel
theorem dX0_setStoreys_17 : decode cX0_setStoreys 17 = .ok (.iload_n 1, 1) := by decide +kernel
theorem dX0_setStoreys_18 : decode cX0_setStoreys 18 = .ok (.iload_n 2, 1) := by decide +kernel
theorem dX0_setStoreys_19 : decode cX0_setStoreys 19 = .ok (.iastore, 1) := by decide +kernel
theorem dX0_setStoreys_20 : decode cX0_setStoreys 20 = .ok (.return_, 1) := by decide +kernel
set_option maxRecDepth 20000 in
theorem ggX0_addBuilder_X0_put : GoodIn wsX0_addBuilder wsX0_put := goodIn_r _ [8, 9, 10, 68, 69, 70, 71, 72, 73, 74, 75, 76, 77, 78, 79, 80] (by decide +kernel) (by decide +kernel)
set_option maxRecDepth 20000 in
theorem gX0_addBuilder_X0_put : GoodIn wsX0_addBuilder (wsV RX0 81 RX0 yX0_put wsX0_put) := goodIn_app (goodIn_of _ (by decide +kernel)) ggX0_addBuilder_X0_put
set_option maxRecDepth 20000 in
theorem ggX0_addBuilder_X0_isSet : GoodIn wsX0_addBuilder wsX0_isSet := goodIn_r _ [14, 1, 2, 68, 69, 70, 71, 72, 73, 74, 75, 76, 77, 78, 79, 80] (by decide +kernel) (by decide +kernel)
set_option maxRecDepth 20000 in
theorem gX0_addBuilder_X0_isSet : GoodIn wsX0_addBuilder (wsV RX0 69 RX0 yX0_isSet wsX0_isSet) := goodIn_app (goodIn_of _ (by decide +kernel)) ggX0_addBuilder_X0_isSet
set_option maxRecDepth 20000 in
theorem ggX0_addBuilder_X0_hasTurn : GoodIn wsX0_addBuilder wsX0_hasTurn := goodIn_r _ [18, 2, 19, 20, 21, 7, 22, 10, 23, 24, 25, 26, 27, 28, 29, 30, 31, 32, 33, 34, 35, 36, 37, 38, 39, 40, 41, 42, 43, 44, 45, 9, 46, 47, 48, 49, 50, 51, 52, 53, 54, 55, 56, 57, 58, 59, 60, 61, 62, 63, 64, 65, 66, 67, 68, 69, 70, 71, 72, 73, 74, 75, 76, 77, 78, 79, 80] (by decide +kernel) (by decide +kernel)
set_option maxRecDepth 20000 in
theorem gX0_addBuilder_X0_hasTurn : GoodIn wsX0_addBuilder (wsV RX0 85 RX0 yX0_hasTurn wsX0_hasTurn) := goodIn_app (goodIn_of _ (by decide +kernel)) ggX0_addBuilder_X0_hasTurn
theorem dX0_addBuilder_0 : decode cX0_addBuilder 0 = .ok (.aload_n 0, 1) := by decide +kernel
theorem dX0_addBuilder_1 : decode cX0_addBuilder 1 = .ok (.getfield 40, 3) := by decide +kernel
theorem dX0_addBuilder_4 : decode cX0_addBuilder 4 = .ok (.aload_n 0, 1) := by decide +kernel
theorem dX0_addBuilder_5 : decode cX0_addBuilder 5 = .ok (.getfield 31, 3) := by decide +kernel
theorem dX0_addBuilder_8 : decode cX0_addBuilder 8 = .ok (.if_icmp .ge 7, 3) := by decide +kernel
theorem dX0_addBuilder_11 : decode cX0_addBuilder 11 = .ok (.iconst 0, 1) := by decide +kernel
theorem dX0_addBuilder_12 : decode cX0_addBuilder 12 = .ok (.goto 4, 3) := by decide +kernel
theorem dX0_addBuilder_15 : decode cX0_addBuilder 15 = .ok (.iconst 1, 1) := by decide +kernel
theorem dX0_addBuilder_16 : decode cX0_addBuilder 16 = .ok (.istore_n 2, 1) := by decide +kernel
theorem dX0_addBuilder_17 : decode cX0_addBuilder 17 = .ok (.aload_n 0, 1) := by decide +kernel
theorem dX0_addBuilder_18 : decode cX0_addBuilder 18 = .ok (.getfield 40, 3) := by decide +kernel
theorem dX0_addBuilder_21 : decode cX0_addBuilder 21 = .ok (.iload_n 2, 1) := by decide +kernel
theorem dX0_addBuilder_22 : decode cX0_addBuilder 22 = .ok (.aload_n 0, 1) := by decide +kernel
theorem dX0_addBuilder_23 : decode cX0_addBuilder 23 = .ok (.getfield 31, 3) := by decide +kernel
theorem dX0_addBuilder_26 : decode cX0_addBuilder 26 = .ok (.imul, 1) := by decide +kernel
theorem dX0_addBuilder_27 : decode cX0_addBuilder 27 = .ok (.isub, 1) := by decide +kernel
theorem dX0_addBuilder_28 : decode cX0_addBuilder 28 = .ok (.istore_n 3, 1) := by decide +kernel
theorem dX0_addBuilder_29 : decode cX0_addBuilder 29 = .ok (.aload_n 0, 1) := by decide +kernel
theorem dX0_addBuilder_30 : decode cX0_addBuilder 30 = .ok (.bipush 10, 2) := by decide +kernel
theorem dX0_addBuilder_32 : decode cX0_addBuilder 32 = .ok (.iload_n 2, 1) := by decide +kernel
theorem dX0_addBuilder_33 : decode cX0_addBuilder 33 = .ok (.imul, 1) := by decide +kernel
theorem dX0_addBuilder_34 : decode cX0_addBuilder 34 = .ok (.iload_n 3, 1) := by decide +kernel
theorem dX0_addBuilder_35 : decode cX0_addBuilder 35 = .ok (.iadd, 1) := by decide +kernel
theorem dX0_addBuilder_36 : decode cX0_addBuilder 36 = .ok (.iload_n 1, 1) := by decide +kernel
theorem dX0_addBuilder_37 : decode cX0_addBuilder 37 = .ok (.invokevirtual 81, 3) := by decide +kernel
theorem dX0_addBuilder_40 : decode cX0_addBuilder 40 = .ok (.aload_n 0, 1) := by decide +kernel
theorem dX0_addBuilder_41 : decode cX0_addBuilder 41 = .ok (.dup, 1) := by decide +kernel
theorem dX0_addBuilder_42 : decode cX0_addBuilder 42 = .ok (.getfield 40, 3) := by decide +kernel
theorem dX0_addBuilder_45 : decode cX0_addBuilder 45 = .ok (.iconst 1, 1) := by decide +kernel
theorem dX0_addBuilder_46 : decode cX0_addBuilder 46 = .ok (.iadd, 1) := by decide +kernel
theorem dX0_addBuilder_47 : decode cX0_addBuilder 47 = .ok (.putfield 40, 3) := by decide +kernel
theorem dX0_addBuilder_50 : decode cX0_addBuilder 50 = .ok (.aload_n 0, 1) := by decide +kernel
theorem dX0_addBuilder_51 : decode cX0_addBuilder 51 = .ok (.invokevirtual 69, 3) := by decide +kernel
theorem dX0_addBuilder_54 : decode cX0_addBuilder 54 = .ok (.ifCond .eq 16, 3) := by decide +kernel
theorem dX0_addBuilder_57 : decode cX0_addBuilder 57 = .ok (.aload_n 0, 1) := by decide +kernel
theorem dX0_addBuilder_58 : decode cX0_addBuilder 58 = .ok (.iconst 0, 1) := by decide +kernel
theorem dX0_addBuilder_59 : decode cX0_addBuilder 59 = .ok (.invokevirtual 85, 3) := by decide +kernel
theorem dX0_addBuilder_62 : decode cX0_addBuilder 62 = .ok (.ifCond .ne 8, 3) := by decide +kernel
theorem dX0_addBuilder_65 : decode cX0_addBuilder 65 = .ok (.aload_n 0, 1) := by decide +kernel
theorem dX0_addBuilder_66 : decode cX0_addBuilder 66 = .ok (.iconst 1, 1) := by decide +kernel
theorem dX0_addBuilder_67 : decode cX0_addBuilder 67 = .ok (.putfield 46, 3) := by decide +kernel
theorem dX0_addBuilder_70 : decode cX0_addBuilder 70 = .ok (.return_, 1) := by decide +kernel
set_option maxRecDepth 20000 in
theorem ggX0_listTurns_X2_clear : GoodIn wsX0_listTurns wsX2_clear := goodIn_r _ [9, 10, 85, 86] (by decide +kernel) (by decide +kernel)
set_option maxRecDepth 20000 in
theorem gX0_listTurns_X2_clear : GoodIn wsX0_listTurns (wsV RX0 89 RX2 yX2_clear wsX2_clear) := goodIn_app (goodIn_of _ (by decide +kernel)) ggX0_listTurns_X2_clear
set_option maxRecDepth 20000 in
theorem ggX0_listTurns_X0_spotOf : GoodIn wsX0_listTurns wsX0_spotOf := goodIn_r _ [15, 16, 72, 73, 74, 75, 76, 77, 78, 79, 80, 81, 82, 83, 84] (by decide +kernel) (by decide +kernel)
set_option maxRecDepth 20000 in
theorem gX0_listTurns_X0_spotOf : GoodIn wsX0_listTurns (wsV RX0 73 RX0 yX0_spotOf wsX0_spotOf) := goodIn_app (goodIn_of _ (by decide +kernel)) ggX0_listTurns_X0_spotOf
set_option maxRecDepth 20000 in
theorem ggX0_listTurns_X0_reachOf : GoodIn wsX0_listTurns wsX0_reachOf := goodIn_r _ [20, 4, 21, 22, 23, 14, 24, 25, 26, 27, 28, 29, 30, 31, 32, 33, 34, 35, 36, 37, 38, 39, 40, 41, 42, 43, 44, 45, 46, 47, 48, 49, 50, 51, 52, 53, 54, 72, 73, 74, 75, 76, 77, 78, 79, 80, 81, 82, 83, 84] (by decide +kernel) (by decide +kernel)
set_option maxRecDepth 20000 in
theorem gX0_listTurns_X0_reachOf : GoodIn wsX0_listTurns (wsV RX0 94 RX0 yX0_reachOf wsX0_reachOf) := goodIn_app (goodIn_of _ (by decide +kernel)) ggX0_listTurns_X0_reachOf
set_option maxRecDepth 20000 in
theorem ggX0_listTurns_X0_listBuildings : GoodIn wsX0_listTurns wsX0_listBuildings := goodIn_r _ [58, 2, 59, 60, 61, 14, 62, 40, 41, 42, 43, 44, 49, 50, 51, 52, 53, 54, 26, 27, 28, 29, 30, 63, 64, 65, 66, 45, 46, 47, 48, 35, 67, 68, 69, 8, 70, 10, 71, 31, 32, 33, 34, 72, 73, 74, 75, 76, 77, 78, 79, 80, 81, 82, 83, 84, 85, 86] (by decide +kernel) (by decide +kernel)
set_option maxRecDepth 20000 in
theorem gX0_listTurns_X0_listBuildings : GoodIn wsX0_listTurns (wsV RX0 98 RX0 yX0_listBuildings wsX0_listBuildings) := goodIn_app (goodIn_of _ (by decide +kernel)) ggX0_listTurns_X0_listBuildings
set_option maxRecDepth 20000 in
theorem ggX0_listTurns_X2_add : GoodIn wsX0_listTurns wsX2_add := goodIn_r _ [70, 10, 71, 85, 86] (by decide +kernel) (by decide +kernel)
set_option maxRecDepth 20000 in
theorem gX0_listTurns_X2_add : GoodIn wsX0_listTurns (wsV RX0 102 RX2 yX2_add wsX2_add) := goodIn_app (goodIn_of _ (by decide +kernel)) ggX0_listTurns_X2_add
theorem dX0_listTurns_0 : decode cX0_listTurns 0 = .ok (.aload_n 1, 1) := by decide +kernel
theorem dX0_listTurns_1 : decode cX0_listTurns 1 = .ok (.invokevirtual 89, 3) := by decide +kernel
theorem dX0_listTurns_4 : decode cX0_listTurns 4 = .ok (.aload_n 0, 1) := by decide +kernel
theorem dX0_listTurns_5 : decode cX0_listTurns 5 = .ok (.getfield 46, 3) := by decide +kernel
theorem dX0_listTurns_8 : decode cX0_listTurns 8 = .ok (.iconst (-1), 1) := by decide +kernel
theorem dX0_listTurns_9 : decode cX0_listTurns 9 = .ok (.if_icmp .eq 4, 3) := by decide +kernel
theorem dX0_listTurns_12 : decode cX0_listTurns 12 = .ok (.return_, 1) := by decide +kernel
theorem dX0_listTurns_13 : decode cX0_listTurns 13 = .ok (.aload_n 0, 1) := by decide +kernel
theorem dX0_listTurns_14 : decode cX0_listTurns 14 = .ok (.getfield 43, 3) := by decide +kernel
theorem dX0_listTurns_17 : decode cX0_listTurns 17 = .ok (.iconst 2, 1) := by decide +kernel
theorem dX0_listTurns_18 : decode cX0_listTurns 18 = .ok (.irem, 1) := by decide +kernel
theorem dX0_listTurns_19 : decode cX0_listTurns 19 = .ok (.istore_n 2, 1) := by decide +kernel
theorem dX0_listTurns_20 : decode cX0_listTurns 20 = .ok (.iconst 0, 1) := by decide +kernel
theorem dX0_listTurns_21 : decode cX0_listTurns 21 = .ok (.istore_n 3, 1) := by decide +kernel
theorem dX0_listTurns_22 : decode cX0_listTurns 22 = .ok (.iload_n 3, 1) := by decide +kernel
theorem dX0_listTurns_23 : decode cX0_listTurns 23 = .ok (.aload_n 0, 1) := by decide +kernel
theorem dX0_listTurns_24 : decode cX0_listTurns 24 = .ok (.getfield 31, 3) := by decide +kernel
theorem dX0_listTurns_27 : decode cX0_listTurns 27 = .ok (.if_icmp .ge 104, 3) := by decide +kernel
theorem dX0_listTurns_30 : decode cX0_listTurns 30 = .ok (.aload_n 0, 1) := by decide +kernel
theorem dX0_listTurns_31 : decode cX0_listTurns 31 = .ok (.iload_n 2, 1) := by decide +kernel
theorem dX0_listTurns_32 : decode cX0_listTurns 32 = .ok (.iload_n 3, 1) := by decide +kernel
theorem dX0_listTurns_33 : decode cX0_listTurns 33 = .ok (.invokevirtual 73, 3) := by decide +kernel
theorem dX0_listTurns_36 : decode cX0_listTurns 36 = .ok (.istore 4, 2) := by decide +kernel
theorem dX0_listTurns_38 : decode cX0_listTurns 38 = .ok (.aload_n 0, 1) := by decide +kernel
theorem dX0_listTurns_39 : decode cX0_listTurns 39 = .ok (.iload_n 2, 1) := by decide +kernel
theorem dX0_listTurns_40 : decode cX0_listTurns 40 = .ok (.iload 4, 2) := by decide +kernel
theorem dX0_listTurns_42 : decode cX0_listTurns 42 = .ok (.invokevirtual 94, 3) := by decide +kernel
theorem dX0_listTurns_45 : decode cX0_listTurns 45 = .ok (.lstore 5, 2) := by decide +kernel
theorem dX0_listTurns_47 : decode cX0_listTurns 47 = .ok (.iconst 0, 1) := by decide +kernel
theorem dX0_listTurns_48 : decode cX0_listTurns 48 = .ok (.istore 7, 2) := by decide +kernel
theorem dX0_listTurns_50 : decode cX0_listTurns 50 = .ok (.iload 7, 2) := by decide +kernel
theorem dX0_listTurns_52 : decode cX0_listTurns 52 = .ok (.aload_n 0, 1) := by decide +kernel
theorem dX0_listTurns_53 : decode cX0_listTurns 53 = .ok (.getfield 27, 3) := by decide +kernel
theorem dX0_listTurns_56 : decode cX0_listTurns 56 = .ok (.if_icmp .ge 69, 3) := by decide +kernel
theorem dX0_listTurns_59 : decode cX0_listTurns 59 = .ok (.sipush 10000, 3) := by decide +kernel
theorem dX0_listTurns_62 : decode cX0_listTurns 62 = .ok (.iload_n 3, 1) := by decide +kernel
theorem dX0_listTurns_63 : decode cX0_listTurns 63 = .ok (.imul, 1) := by decide +kernel
theorem dX0_listTurns_64 : decode cX0_listTurns 64 = .ok (.bipush 100, 2) := by decide +kernel
theorem dX0_listTurns_66 : decode cX0_listTurns 66 = .ok (.iload 7, 2) := by decide +kernel
theorem dX0_listTurns_68 : decode cX0_listTurns 68 = .ok (.imul, 1) := by decide +kernel
theorem dX0_listTurns_69 : decode cX0_listTurns 69 = .ok (.iadd, 1) := by decide +kernel
theorem dX0_listTurns_70 : decode cX0_listTurns 70 = .ok (.istore 8, 2) := by decide +kernel
theorem dX0_listTurns_72 : decode cX0_listTurns 72 = .ok (.lload 5, 2) := by decide +kernel
theorem dX0_listTurns_74 : decode cX0_listTurns 74 = .ok (.iload 7, 2) := by decide +kernel
theorem dX0_listTurns_76 : decode cX0_listTurns 76 = .ok (.lshr, 1) := by decide +kernel
theorem dX0_listTurns_77 : decode cX0_listTurns 77 = .ok (.lconst 1, 1) := by decide +kernel
theorem dX0_listTurns_78 : decode cX0_listTurns 78 = .ok (.land, 1) := by decide +kernel
theorem dX0_listTurns_79 : decode cX0_listTurns 79 = .ok (.lconst 0, 1) := by decide +kernel
theorem dX0_listTurns_80 : decode cX0_listTurns 80 = .ok (.lcmp, 1) := by decide +kernel
theorem dX0_listTurns_81 : decode cX0_listTurns 81 = .ok (.ifCond .eq 14, 3) := by decide +kernel
theorem dX0_listTurns_84 : decode cX0_listTurns 84 = .ok (.aload_n 0, 1) := by decide +kernel
theorem dX0_listTurns_85 : decode cX0_listTurns 85 = .ok (.aload_n 1, 1) := by decide +kernel
theorem dX0_listTurns_86 : decode cX0_listTurns 86 = .ok (.iload 8, 2) := by decide +kernel
theorem dX0_listTurns_88 : decode cX0_listTurns 88 = .ok (.iload 4, 2) := by decide +kernel
theorem dX0_listTurns_90 : decode cX0_listTurns 90 = .ok (.iload 7, 2) := by decide +kernel
theorem dX0_listTurns_92 : decode cX0_listTurns 92 = .ok (.invokevirtual 98, 3) := by decide +kernel
theorem dX0_listTurns_95 : decode cX0_listTurns 95 = .ok (.lload 5, 2) := by decide +kernel
theorem dX0_listTurns_97 : decode cX0_listTurns 97 = .ok (.iload 7, 2) := by decide +kernel
theorem dX0_listTurns_99 : decode cX0_listTurns 99 = .ok (.bipush 32, 2) := by decide +kernel
theorem dX0_listTurns_101 : decode cX0_listTurns 101 = .ok (.iadd, 1) := by decide +kernel
theorem dX0_listTurns_102 : decode cX0_listTurns 102 = .ok (.lshr, 1) := by decide +kernel
theorem dX0_listTurns_103 : decode cX0_listTurns 103 = .ok (.lconst 1, 1) := by decide +kernel
theorem dX0_listTurns_104 : decode cX0_listTurns 104 = .ok (.land, 1) := by decide +kernel
theorem dX0_listTurns_105 : decode cX0_listTurns 105 = .ok (.lconst 0, 1) := by decide +kernel
theorem dX0_listTurns_106 : decode cX0_listTurns 106 = .ok (.lcmp, 1) := by decide +kernel
theorem dX0_listTurns_107 : decode cX0_listTurns 107 = .ok (.ifCond .eq 12, 3) := by decide +kernel
theorem dX0_listTurns_110 : decode cX0_listTurns 110 = .ok (.aload_n 1, 1) := by decide +kernel
theorem dX0_listTurns_111 : decode cX0_listTurns 111 = .ok (.iload 8, 2) := by decide +kernel
theorem dX0_listTurns_113 : decode cX0_listTurns 113 = .ok (.bipush 99, 2) := by decide +kernel
theorem dX0_listTurns_115 : decode cX0_listTurns 115 = .ok (.iadd, 1) := by decide +kernel
theorem dX0_listTurns_116 : decode cX0_listTurns 116 = .ok (.invokevirtual 102, 3) := by decide +kernel
theorem dX0_listTurns_119 : decode cX0_listTurns 119 = .ok (.iinc 7 1, 3) := by decide +kernel
theorem dX0_listTurns_122 : decode cX0_listTurns 122 = .ok (.goto (-72), 3) := by decide +kernel
theorem dX0_listTurns_125 : decode cX0_listTurns 125 = .ok (.iinc 3 1, 3) := by decide +kernel
theorem dX0_listTurns_128 : decode cX0_listTurns 128 = .ok (.goto (-106), 3) := by decide +kernel
theorem dX0_listTurns_131 : decode cX0_listTurns 131 = .ok (.return_, 1) := by decide +kernel
set_option maxRecDepth 20000 in
theorem ggX0_perform_X0_spotOf : GoodIn wsX0_perform wsX0_spotOf := goodIn_r _ [8, 9, 87, 88, 89, 90, 91, 92, 93, 94, 95, 96, 97, 98, 99] (by decide +kernel) (by decide +kernel)
set_option maxRecDepth 20000 in
theorem gX0_perform_X0_spotOf : GoodIn wsX0_perform (wsV RX0 73 RX0 yX0_spotOf wsX0_spotOf) := goodIn_app (goodIn_of _ (by decide +kernel)) ggX0_perform_X0_spotOf
set_option maxRecDepth 20000 in
theorem ggX0_perform_X0_destinationOf : GoodIn wsX0_perform wsX0_destinationOf := goodIn_r _ [12] (by decide +kernel) (by decide +kernel)
set_option maxRecDepth 20000 in
theorem gX0_perform_X0_destinationOf : GoodIn wsX0_perform (va_wsS RX0 106 yX0_destinationOf wsX0_destinationOf) := goodIn_app (goodIn_of _ (by decide +kernel)) ggX0_perform_X0_destinationOf
set_option maxRecDepth 20000 in
theorem ggX0_perform_X0_asideOf : GoodIn wsX0_perform wsX0_asideOf := goodIn_r _ [16, 17, 18, 19, 7, 20, 21, 22, 23, 24, 25, 26, 27, 87, 88, 89, 90, 91, 92, 93, 94, 95, 96, 97, 98, 99] (by decide +kernel) (by decide +kernel)
set_option maxRecDepth 20000 in
theorem gX0_perform_X0_asideOf : GoodIn wsX0_perform (wsV RX0 109 RX0 yX0_asideOf wsX0_asideOf) := goodIn_app (goodIn_of _ (by decide +kernel)) ggX0_perform_X0_asideOf
set_option maxRecDepth 20000 in
theorem ggX0_perform_X0_remember : GoodIn wsX0_perform wsX0_remember := goodIn_r _ [31, 1, 32, 2, 33, 34, 7, 35, 36, 37, 38, 39, 40, 87, 88, 89, 90, 91, 92, 93, 94, 95, 96, 97, 98, 99] (by decide +kernel) (by decide +kernel)
set_option maxRecDepth 20000 in
theorem gX0_perform_X0_remember : GoodIn wsX0_perform (wsV RX0 113 RX0 yX0_remember wsX0_remember) := goodIn_app (goodIn_of _ (by decide +kernel)) ggX0_perform_X0_remember
set_option maxRecDepth 20000 in
theorem ggX0_perform_X0_powerOf : GoodIn wsX0_perform wsX0_powerOf := goodIn_r _ [25, 26, 27, 87, 88, 89, 90, 91, 92, 93, 94, 95, 96, 97, 98, 99] (by decide +kernel) (by decide +kernel)
set_option maxRecDepth 20000 in
theorem gX0_perform_X0_powerOf : GoodIn wsX0_perform (wsV RX0 117 RX0 yX0_powerOf wsX0_powerOf) := goodIn_app (goodIn_of _ (by decide +kernel)) ggX0_perform_X0_powerOf
set_option maxRecDepth 20000 in
theorem ggX0_perform_X0_storeysOf : GoodIn wsX0_perform wsX0_storeysOf := goodIn_r _ [39, 40, 87, 88, 89, 90, 91, 92, 93, 94, 95, 96, 97, 98, 99] (by decide +kernel) (by decide +kernel)
set_option maxRecDepth 20000 in
theorem gX0_perform_X0_storeysOf : GoodIn wsX0_perform (wsV RX0 77 RX0 yX0_storeysOf wsX0_storeysOf) := goodIn_app (goodIn_of _ (by decide +kernel)) ggX0_perform_X0_storeysOf
set_option maxRecDepth 20000 in
theorem ggX0_perform_X0_carry : GoodIn wsX0_perform wsX0_carry := goodIn_r _ [44, 17, 18, 19, 7, 20, 21, 45, 46, 47, 48, 49, 50, 51, 52, 9, 87, 88, 89, 90, 91, 92, 93, 94, 95, 96, 97, 98, 99] (by decide +kernel) (by decide +kernel)
set_option maxRecDepth 20000 in
theorem gX0_perform_X0_carry : GoodIn wsX0_perform (wsV RX0 120 RX0 yX0_carry wsX0_carry) := goodIn_app (goodIn_of _ (by decide +kernel)) ggX0_perform_X0_carry
set_option maxRecDepth 20000 in
theorem ggX0_perform_X0_setStoreys : GoodIn wsX0_perform wsX0_setStoreys := goodIn_r _ [56, 40, 87, 88, 89, 90, 91, 92, 93, 94, 95, 96, 97, 98, 99] (by decide +kernel) (by decide +kernel)
set_option maxRecDepth 20000 in
theorem gX0_perform_X0_setStoreys : GoodIn wsX0_perform (wsV RX0 123 RX0 yX0_setStoreys wsX0_setStoreys) := goodIn_app (goodIn_of _ (by decide +kernel)) ggX0_perform_X0_setStoreys
set_option maxRecDepth 20000 in
theorem ggX0_perform_X0_hasTurn : GoodIn wsX0_perform wsX0_hasTurn := goodIn_r _ [60, 61, 4, 5, 6, 7, 8, 9, 62, 63, 64, 65, 2, 66, 67, 68, 69, 70, 36, 37, 38, 39, 40, 71, 72, 73, 74, 17, 18, 19, 20, 21, 75, 76, 77, 78, 22, 23, 24, 25, 26, 27, 79, 80, 81, 82, 13, 14, 15, 16, 83, 84, 85, 86, 87, 88, 89, 90, 91, 92, 93, 94, 95, 96, 97, 98, 99] (by decide +kernel) (by decide +kernel)
set_option maxRecDepth 20000 in
theorem gX0_perform_X0_hasTurn : GoodIn wsX0_perform (wsV RX0 85 RX0 yX0_hasTurn wsX0_hasTurn) := goodIn_app (goodIn_of _ (by decide +kernel)) ggX0_perform_X0_hasTurn
theorem dX0_perform_0 : decode cX0_perform 0 = .ok (.aload_n 0, 1) := by decide +kernel
theorem dX0_perform_1 : decode cX0_perform 1 = .ok (.getfield 43, 3) := by decide +kernel
theorem dX0_perform_4 : decode cX0_perform 4 = .ok (.iconst 2, 1) := by decide +kernel
theorem dX0_perform_5 : decode cX0_perform 5 = .ok (.irem, 1) := by decide +kernel
theorem dX0_perform_6 : decode cX0_perform 6 = .ok (.istore_n 2, 1) := by decide +kernel
theorem dX0_perform_7 : decode cX0_perform 7 = .ok (.aload_n 0, 1) := by decide +kernel
theorem dX0_perform_8 : decode cX0_perform 8 = .ok (.iload_n 2, 1) := by decide +kernel
theorem dX0_perform_9 : decode cX0_perform 9 = .ok (.iload_n 1, 1) := by decide +kernel
theorem dX0_perform_10 : decode cX0_perform 10 = .ok (.sipush 10000, 3) := by decide +kernel
theorem dX0_perform_13 : decode cX0_perform 13 = .ok (.idiv, 1) := by decide +kernel
theorem dX0_perform_14 : decode cX0_perform 14 = .ok (.invokevirtual 73, 3) := by decide +kernel
theorem dX0_perform_17 : decode cX0_perform 17 = .ok (.istore_n 3, 1) := by decide +kernel
theorem dX0_perform_18 : decode cX0_perform 18 = .ok (.iload_n 1, 1) := by decide +kernel
theorem dX0_perform_19 : decode cX0_perform 19 = .ok (.invokestatic 106, 3) := by decide +kernel
theorem dX0_perform_22 : decode cX0_perform 22 = .ok (.istore 4, 2) := by decide +kernel
theorem dX0_perform_24 : decode cX0_perform 24 = .ok (.iload_n 1, 1) := by decide +kernel
theorem dX0_perform_25 : decode cX0_perform 25 = .ok (.bipush 100, 2) := by decide +kernel
theorem dX0_perform_27 : decode cX0_perform 27 = .ok (.irem, 1) := by decide +kernel
theorem dX0_perform_28 : decode cX0_perform 28 = .ok (.istore 5, 2) := by decide +kernel
theorem dX0_perform_30 : decode cX0_perform 30 = .ok (.aload_n 0, 1) := by decide +kernel
theorem dX0_perform_31 : decode cX0_perform 31 = .ok (.iload_n 2, 1) := by decide +kernel
theorem dX0_perform_32 : decode cX0_perform 32 = .ok (.iload_n 3, 1) := by decide +kernel
theorem dX0_perform_33 : decode cX0_perform 33 = .ok (.iload 4, 2) := by decide +kernel
theorem dX0_perform_35 : decode cX0_perform 35 = .ok (.invokevirtual 109, 3) := by decide +kernel
theorem dX0_perform_38 : decode cX0_perform 38 = .ok (.istore 6, 2) := by decide +kernel
theorem dX0_perform_40 : decode cX0_perform 40 = .ok (.aload_n 0, 1) := by decide +kernel
theorem dX0_perform_41 : decode cX0_perform 41 = .ok (.iload_n 1, 1) := by decide +kernel
theorem dX0_perform_42 : decode cX0_perform 42 = .ok (.iload_n 3, 1) := by decide +kernel
theorem dX0_perform_43 : decode cX0_perform 43 = .ok (.iload 6, 2) := by decide +kernel
theorem dX0_perform_45 : decode cX0_perform 45 = .ok (.invokevirtual 113, 3) := by decide +kernel
theorem dX0_perform_48 : decode cX0_perform 48 = .ok (.aload_n 0, 1) := by decide +kernel
theorem dX0_perform_49 : decode cX0_perform 49 = .ok (.aload_n 0, 1) := by decide +kernel
theorem dX0_perform_50 : decode cX0_perform 50 = .ok (.iload_n 2, 1) := by decide +kernel
theorem dX0_perform_51 : decode cX0_perform 51 = .ok (.invokevirtual 117, 3) := by decide +kernel
theorem dX0_perform_54 : decode cX0_perform 54 = .ok (.iconst 4, 1) := by decide +kernel
theorem dX0_perform_55 : decode cX0_perform 55 = .ok (.if_icmp .ne 21, 3) := by decide +kernel
theorem dX0_perform_58 : decode cX0_perform 58 = .ok (.aload_n 0, 1) := by decide +kernel
theorem dX0_perform_59 : decode cX0_perform 59 = .ok (.iload 4, 2) := by decide +kernel
theorem dX0_perform_61 : decode cX0_perform 61 = .ok (.invokevirtual 77, 3) := by decide +kernel
theorem dX0_perform_64 : decode cX0_perform 64 = .ok (.aload_n 0, 1) := by decide +kernel
theorem dX0_perform_65 : decode cX0_perform 65 = .ok (.iload_n 3, 1) := by decide +kernel
theorem dX0_perform_66 : decode cX0_perform 66 = .ok (.invokevirtual 77, 3) := by decide +kernel
theorem dX0_perform_69 : decode cX0_perform 69 = .ok (.if_icmp .le 7, 3) := by decide +kernel
theorem dX0_perform_72 : decode cX0_perform 72 = .ok (.iconst 1, 1) := by decide +kernel
theorem dX0_perform_73 : decode cX0_perform 73 = .ok (.goto 4, 3) := by decide +kernel
theorem dX0_perform_76 : decode cX0_perform 76 = .ok (.iconst 0, 1) := by decide +kernel
theorem dX0_perform_77 : decode cX0_perform 77 = .ok (.putfield 49, 3) := by decide +kernel
theorem dX0_perform_80 : decode cX0_perform 80 = .ok (.aload_n 0, 1) := by decide +kernel
theorem dX0_perform_81 : decode cX0_perform 81 = .ok (.iload_n 3, 1) := by decide +kernel
theorem dX0_perform_82 : decode cX0_perform 82 = .ok (.iload 4, 2) := by decide +kernel
theorem dX0_perform_84 : decode cX0_perform 84 = .ok (.iload 6, 2) := by decide +kernel
theorem dX0_perform_86 : decode cX0_perform 86 = .ok (.invokevirtual 120, 3) := by decide +kernel
theorem dX0_perform_89 : decode cX0_perform 89 = .ok (.aload_n 0, 1) := by decide +kernel
theorem dX0_perform_90 : decode cX0_perform 90 = .ok (.dup, 1) := by decide +kernel
theorem dX0_perform_91 : decode cX0_perform 91 = .ok (.getfield 43, 3) := by decide +kernel
theorem dX0_perform_94 : decode cX0_perform 94 = .ok (.iconst 1, 1) := by decide +kernel
theorem dX0_perform_95 : decode cX0_perform 95 = .ok (.iadd, 1) := by decide +kernel
theorem dX0_perform_96 : decode cX0_perform 96 = .ok (.putfield 43, 3) := by decide +kernel
theorem dX0_perform_99 : decode cX0_perform 99 = .ok (.iload 5, 2) := by decide +kernel
theorem dX0_perform_101 : decode cX0_perform 101 = .ok (.bipush 50, 2) := by decide +kernel
theorem dX0_perform_103 : decode cX0_perform 103 = .ok (.if_icmp .ge 20, 3) := by decide +kernel
theorem dX0_perform_106 : decode cX0_perform 106 = .ok (.aload_n 0, 1) := by decide +kernel
theorem dX0_perform_107 : decode cX0_perform 107 = .ok (.iload 5, 2) := by decide +kernel
theorem dX0_perform_109 : decode cX0_perform 109 = .ok (.aload_n 0, 1) := by decide +kernel
theorem dX0_perform_110 : decode cX0_perform 110 = .ok (.iload 5, 2) := by decide +kernel
theorem dX0_perform_112 : decode cX0_perform 112 = .ok (.invokevirtual 77, 3) := by decide +kernel
theorem dX0_perform_115 : decode cX0_perform 115 = .ok (.iconst 1, 1) := by decide +kernel
theorem dX0_perform_116 : decode cX0_perform 116 = .ok (.iadd, 1) := by decide +kernel
theorem dX0_perform_117 : decode cX0_perform 117 = .ok (.invokevirtual 123, 3) := by decide +kernel
theorem dX0_perform_120 : decode cX0_perform 120 = .ok (.goto 20, 3) := by decide +kernel
theorem dX0_perform_123 : decode cX0_perform 123 = .ok (.iload 5, 2) := by decide +kernel
theorem dX0_perform_125 : decode cX0_perform 125 = .ok (.bipush 99, 2) := by decide +kernel
theorem dX0_perform_127 : decode cX0_perform 127 = .ok (.if_icmp .ge 13, 3) := by decide +kernel
theorem dX0_perform_130 : decode cX0_perform 130 = .ok (.aload_n 0, 1) := by decide +kernel
theorem dX0_perform_131 : decode cX0_perform 131 = .ok (.iload 5, 2) := by decide +kernel
theorem dX0_perform_133 : decode cX0_perform 133 = .ok (.bipush 50, 2) := by decide +kernel
theorem dX0_perform_135 : decode cX0_perform 135 = .ok (.isub, 1) := by decide +kernel
theorem dX0_perform_136 : decode cX0_perform 136 = .ok (.iconst 4, 1) := by decide +kernel
theorem dX0_perform_137 : decode cX0_perform 137 = .ok (.invokevirtual 123, 3) := by decide +kernel
theorem dX0_perform_140 : decode cX0_perform 140 = .ok (.iload 5, 2) := by decide +kernel
theorem dX0_perform_142 : decode cX0_perform 142 = .ok (.bipush 99, 2) := by decide +kernel
theorem dX0_perform_144 : decode cX0_perform 144 = .ok (.if_icmp .eq 13, 3) := by decide +kernel
theorem dX0_perform_147 : decode cX0_perform 147 = .ok (.aload_n 0, 1) := by decide +kernel
theorem dX0_perform_148 : decode cX0_perform 148 = .ok (.iconst 1, 1) := by decide +kernel
theorem dX0_perform_149 : decode cX0_perform 149 = .ok (.iload_n 2, 1) := by decide +kernel
theorem dX0_perform_150 : decode cX0_perform 150 = .ok (.isub, 1) := by decide +kernel
theorem dX0_perform_151 : decode cX0_perform 151 = .ok (.invokevirtual 85, 3) := by decide +kernel
theorem dX0_perform_154 : decode cX0_perform 154 = .ok (.ifCond .ne 8, 3) := by decide +kernel
theorem dX0_perform_157 : decode cX0_perform 157 = .ok (.aload_n 0, 1) := by decide +kernel
theorem dX0_perform_158 : decode cX0_perform 158 = .ok (.iload_n 2, 1) := by decide +kernel
theorem dX0_perform_159 : decode cX0_perform 159 = .ok (.putfield 46, 3) := by decide +kernel
theorem dX0_perform_162 : decode cX0_perform 162 = .ok (.return_, 1) := by decide +kernel
set_option maxRecDepth 20000 in
theorem ggX0_undo_X0_builtCellOf : GoodIn wsX0_undo wsX0_builtCellOf := goodIn_r _ [8] (by decide +kernel) (by decide +kernel)
set_option maxRecDepth 20000 in
theorem gX0_undo_X0_builtCellOf : GoodIn wsX0_undo (va_wsS RX0 126 yX0_builtCellOf wsX0_builtCellOf) := goodIn_app (goodIn_of _ (by decide +kernel)) ggX0_undo_X0_builtCellOf
set_option maxRecDepth 20000 in
theorem ggX0_undo_X0_setStoreys : GoodIn wsX0_undo wsX0_setStoreys := goodIn_r _ [12, 13, 35, 36, 37, 38, 39, 40, 41, 42, 43, 44, 45, 46, 47] (by decide +kernel) (by decide +kernel)
set_option maxRecDepth 20000 in
theorem gX0_undo_X0_setStoreys : GoodIn wsX0_undo (wsV RX0 123 RX0 yX0_setStoreys wsX0_setStoreys) := goodIn_app (goodIn_of _ (by decide +kernel)) ggX0_undo_X0_setStoreys
set_option maxRecDepth 20000 in
theorem ggX0_undo_X0_destinationOf : GoodIn wsX0_undo wsX0_destinationOf := goodIn_r _ [16] (by decide +kernel) (by decide +kernel)
set_option maxRecDepth 20000 in
theorem gX0_undo_X0_destinationOf : GoodIn wsX0_undo (va_wsS RX0 106 yX0_destinationOf wsX0_destinationOf) := goodIn_app (goodIn_of _ (by decide +kernel)) ggX0_undo_X0_destinationOf
set_option maxRecDepth 20000 in
theorem ggX0_undo_X0_carryBack : GoodIn wsX0_undo wsX0_carryBack := goodIn_r _ [20, 21, 22, 23, 7, 24, 25, 26, 27, 28, 29, 30, 31, 32, 33, 34, 35, 36, 37, 38, 39, 40, 41, 42, 43, 44, 45, 46, 47] (by decide +kernel) (by decide +kernel)
set_option maxRecDepth 20000 in
theorem gX0_undo_X0_carryBack : GoodIn wsX0_undo (wsV RX0 129 RX0 yX0_carryBack wsX0_carryBack) := goodIn_app (goodIn_of _ (by decide +kernel)) ggX0_undo_X0_carryBack
theorem dX0_undo_0 : decode cX0_undo 0 = .ok (.aload_n 0, 1) := by decide +kernel
theorem dX0_undo_1 : decode cX0_undo 1 = .ok (.getfield 43, 3) := by decide +kernel
theorem dX0_undo_4 : decode cX0_undo 4 = .ok (.iconst 1, 1) := by decide +kernel
theorem dX0_undo_5 : decode cX0_undo 5 = .ok (.isub, 1) := by decide +kernel
theorem dX0_undo_6 : decode cX0_undo 6 = .ok (.iconst 5, 1) := by decide +kernel
theorem dX0_undo_7 : decode cX0_undo 7 = .ok (.imul, 1) := by decide +kernel
theorem dX0_undo_8 : decode cX0_undo 8 = .ok (.istore_n 1, 1) := by decide +kernel
theorem dX0_undo_9 : decode cX0_undo 9 = .ok (.iload_n 1, 1) := by decide +kernel
theorem dX0_undo_10 : decode cX0_undo 10 = .ok (.ifCond .lt 14, 3) := by decide +kernel
theorem dX0_undo_13 : decode cX0_undo 13 = .ok (.iload_n 1, 1) := by decide +kernel
theorem dX0_undo_14 : decode cX0_undo 14 = .ok (.iconst 5, 1) := by decide +kernel
theorem dX0_undo_15 : decode cX0_undo 15 = .ok (.iadd, 1) := by decide +kernel
theorem dX0_undo_16 : decode cX0_undo 16 = .ok (.aload_n 0, 1) := by decide +kernel
theorem dX0_undo_17 : decode cX0_undo 17 = .ok (.getfield 24, 3) := by decide +kernel
theorem dX0_undo_20 : decode cX0_undo 20 = .ok (.arraylength, 1) := by decide +kernel
theorem dX0_undo_21 : decode cX0_undo 21 = .ok (.if_icmp .le 4, 3) := by decide +kernel
theorem dX0_undo_24 : decode cX0_undo 24 = .ok (.return_, 1) := by decide +kernel
theorem dX0_undo_25 : decode cX0_undo 25 = .ok (.aload_n 0, 1) := by decide +kernel
theorem dX0_undo_26 : decode cX0_undo 26 = .ok (.dup, 1) := by decide +kernel
theorem dX0_undo_27 : decode cX0_undo 27 = .ok (.getfield 43, 3) := by decide +kernel
theorem dX0_undo_30 : decode cX0_undo 30 = .ok (.iconst 1, 1) := by decide +kernel
theorem dX0_undo_31 : decode cX0_undo 31 = .ok (.isub, 1) := by decide +kernel
theorem dX0_undo_32 : decode cX0_undo 32 = .ok (.putfield 43, 3) := by decide +kernel
theorem dX0_undo_35 : decode cX0_undo 35 = .ok (.aload_n 0, 1) := by decide +kernel
theorem dX0_undo_36 : decode cX0_undo 36 = .ok (.iconst (-1), 1) := by decide +kernel
theorem dX0_undo_37 : decode cX0_undo 37 = .ok (.putfield 46, 3) := by decide +kernel
theorem dX0_undo_40 : decode cX0_undo 40 = .ok (.aload_n 0, 1) := by decide +kernel
theorem dX0_undo_41 : decode cX0_undo 41 = .ok (.getfield 24, 3) := by decide +kernel
theorem dX0_undo_44 : decode cX0_undo 44 = .ok (.iload_n 1, 1) := by decide +kernel
theorem dX0_undo_45 : decode cX0_undo 45 = .ok (.iaload, 1) := by decide +kernel
theorem dX0_undo_46 : decode cX0_undo 46 = .ok (.istore_n 2, 1) := by decide +kernel
theorem dX0_undo_47 : decode cX0_undo 47 = .ok (.aload_n 0, 1) := by decide +kernel
theorem dX0_undo_48 : decode cX0_undo 48 = .ok (.iload_n 2, 1) := by decide +kernel
theorem dX0_undo_49 : decode cX0_undo 49 = .ok (.invokestatic 126, 3) := by decide +kernel
theorem dX0_undo_52 : decode cX0_undo 52 = .ok (.aload_n 0, 1) := by decide +kernel
theorem dX0_undo_53 : decode cX0_undo 53 = .ok (.getfield 24, 3) := by decide +kernel
theorem dX0_undo_56 : decode cX0_undo 56 = .ok (.iload_n 1, 1) := by decide +kernel
theorem dX0_undo_57 : decode cX0_undo 57 = .ok (.iconst 3, 1) := by decide +kernel
theorem dX0_undo_58 : decode cX0_undo 58 = .ok (.iadd, 1) := by decide +kernel
theorem dX0_undo_59 : decode cX0_undo 59 = .ok (.iaload, 1) := by decide +kernel
theorem dX0_undo_60 : decode cX0_undo 60 = .ok (.invokevirtual 123, 3) := by decide +kernel
theorem dX0_undo_63 : decode cX0_undo 63 = .ok (.aload_n 0, 1) := by decide +kernel
theorem dX0_undo_64 : decode cX0_undo 64 = .ok (.aload_n 0, 1) := by decide +kernel
theorem dX0_undo_65 : decode cX0_undo 65 = .ok (.getfield 24, 3) := by decide +kernel
theorem dX0_undo_68 : decode cX0_undo 68 = .ok (.iload_n 1, 1) := by decide +kernel
theorem dX0_undo_69 : decode cX0_undo 69 = .ok (.iconst 4, 1) := by decide +kernel
theorem dX0_undo_70 : decode cX0_undo 70 = .ok (.iadd, 1) := by decide +kernel
theorem dX0_undo_71 : decode cX0_undo 71 = .ok (.iaload, 1) := by decide +kernel
theorem dX0_undo_72 : decode cX0_undo 72 = .ok (.iconst 1, 1) := by decide +kernel
theorem dX0_undo_73 : decode cX0_undo 73 = .ok (.if_icmp .ne 7, 3) := by decide +kernel
theorem dX0_undo_76 : decode cX0_undo 76 = .ok (.iconst 1, 1) := by decide +kernel
theorem dX0_undo_77 : decode cX0_undo 77 = .ok (.goto 4, 3) := by decide +kernel
theorem dX0_undo_80 : decode cX0_undo 80 = .ok (.iconst 0, 1) := by decide +kernel
theorem dX0_undo_81 : decode cX0_undo 81 = .ok (.putfield 49, 3) := by decide +kernel
theorem dX0_undo_84 : decode cX0_undo 84 = .ok (.aload_n 0, 1) := by decide +kernel
theorem dX0_undo_85 : decode cX0_undo 85 = .ok (.aload_n 0, 1) := by decide +kernel
theorem dX0_undo_86 : decode cX0_undo 86 = .ok (.getfield 24, 3) := by decide +kernel
theorem dX0_undo_89 : decode cX0_undo 89 = .ok (.iload_n 1, 1) := by decide +kernel
theorem dX0_undo_90 : decode cX0_undo 90 = .ok (.iconst 1, 1) := by decide +kernel
theorem dX0_undo_91 : decode cX0_undo 91 = .ok (.iadd, 1) := by decide +kernel
theorem dX0_undo_92 : decode cX0_undo 92 = .ok (.iaload, 1) := by decide +kernel
theorem dX0_undo_93 : decode cX0_undo 93 = .ok (.iload_n 2, 1) := by decide +kernel
theorem dX0_undo_94 : decode cX0_undo 94 = .ok (.invokestatic 106, 3) := by decide +kernel
theorem dX0_undo_97 : decode cX0_undo 97 = .ok (.aload_n 0, 1) := by decide +kernel
theorem dX0_undo_98 : decode cX0_undo 98 = .ok (.getfield 24, 3) := by decide +kernel
theorem dX0_undo_101 : decode cX0_undo 101 = .ok (.iload_n 1, 1) := by decide +kernel
theorem dX0_undo_102 : decode cX0_undo 102 = .ok (.iconst 2, 1) := by decide +kernel
theorem dX0_undo_103 : decode cX0_undo 103 = .ok (.iadd, 1) := by decide +kernel
theorem dX0_undo_104 : decode cX0_undo 104 = .ok (.iaload, 1) := by decide +kernel
theorem dX0_undo_105 : decode cX0_undo 105 = .ok (.invokevirtual 129, 3) := by decide +kernel
theorem dX0_undo_108 : decode cX0_undo 108 = .ok (.return_, 1) := by decide +kernel
set_option maxRecDepth 20000 in
theorem ggX0_remember_X0_builtCellOf : GoodIn wsX0_remember wsX0_builtCellOf := goodIn_r _ [7] (by decide +kernel) (by decide +kernel)
set_option maxRecDepth 20000 in
theorem gX0_remember_X0_builtCellOf : GoodIn wsX0_remember (va_wsS RX0 126 yX0_builtCellOf wsX0_builtCellOf) := goodIn_app (goodIn_of _ (by decide +kernel)) ggX0_remember_X0_builtCellOf
set_option maxRecDepth 20000 in
theorem ggX0_remember_X0_storeysOf : GoodIn wsX0_remember wsX0_storeysOf := goodIn_r _ [11, 12, 13, 14, 15, 16, 17, 18, 19, 20, 21, 22, 23, 24, 25] (by decide +kernel) (by decide +kernel)
set_option maxRecDepth 20000 in
theorem gX0_remember_X0_storeysOf : GoodIn wsX0_remember (wsV RX0 77 RX0 yX0_storeysOf wsX0_storeysOf) := goodIn_app (goodIn_of _ (by decide +kernel)) ggX0_remember_X0_storeysOf
theorem dX0_remember_0 : decode cX0_remember 0 = .ok (.aload_n 0, 1) := by decide +kernel
theorem dX0_remember_1 : decode cX0_remember 1 = .ok (.getfield 43, 3) := by decide +kernel
theorem dX0_remember_4 : decode cX0_remember 4 = .ok (.iconst 5, 1) := by decide +kernel
theorem dX0_remember_5 : decode cX0_remember 5 = .ok (.imul, 1) := by decide +kernel
theorem dX0_remember_6 : decode cX0_remember 6 = .ok (.istore 4, 2) := by decide +kernel
theorem dX0_remember_8 : decode cX0_remember 8 = .ok (.iload 4, 2) := by decide +kernel
theorem dX0_remember_10 : decode cX0_remember 10 = .ok (.ifCond .lt 81, 3) := by decide +kernel
theorem dX0_remember_13 : decode cX0_remember 13 = .ok (.iload 4, 2) := by decide +kernel
theorem dX0_remember_15 : decode cX0_remember 15 = .ok (.iconst 5, 1) := by decide +kernel
theorem dX0_remember_16 : decode cX0_remember 16 = .ok (.iadd, 1) := by decide +kernel
theorem dX0_remember_17 : decode cX0_remember 17 = .ok (.aload_n 0, 1) := by decide +kernel
theorem dX0_remember_18 : decode cX0_remember 18 = .ok (.getfield 24, 3) := by decide +kernel
theorem dX0_remember_21 : decode cX0_remember 21 = .ok (.arraylength, 1) := by decide +kernel
theorem dX0_remember_22 : decode cX0_remember 22 = .ok (.if_icmp .gt 69, 3) := by decide +kernel
theorem dX0_remember_25 : decode cX0_remember 25 = .ok (.aload_n 0, 1) := by decide +kernel
theorem dX0_remember_26 : decode cX0_remember 26 = .ok (.getfield 24, 3) := by decide +kernel
theorem dX0_remember_29 : decode cX0_remember 29 = .ok (.iload 4, 2) := by decide +kernel
theorem dX0_remember_31 : decode cX0_remember 31 = .ok (.iload_n 1, 1) := by decide +kernel
theorem dX0_remember_32 : decode cX0_remember 32 = .ok (.iastore, 1) := by decide +kernel
theorem dX0_remember_33 : decode cX0_remember 33 = .ok (.aload_n 0, 1) := by decide +kernel
theorem dX0_remember_34 : decode cX0_remember 34 = .ok (.getfield 24, 3) := by decide +kernel
theorem dX0_remember_37 : decode cX0_remember 37 = .ok (.iload 4, 2) := by decide +kernel
theorem dX0_remember_39 : decode cX0_remember 39 = .ok (.iconst 1, 1) := by decide +kernel
theorem dX0_remember_40 : decode cX0_remember 40 = .ok (.iadd, 1) := by decide +kernel
theorem dX0_remember_41 : decode cX0_remember 41 = .ok (.iload_n 2, 1) := by decide +kernel
theorem dX0_remember_42 : decode cX0_remember 42 = .ok (.iastore, 1) := by decide +kernel
theorem dX0_remember_43 : decode cX0_remember 43 = .ok (.aload_n 0, 1) := by decide +kernel
theorem dX0_remember_44 : decode cX0_remember 44 = .ok (.getfield 24, 3) := by decide +kernel
theorem dX0_remember_47 : decode cX0_remember 47 = .ok (.iload 4, 2) := by decide +kernel
theorem dX0_remember_49 : decode cX0_remember 49 = .ok (.iconst 2, 1) := by decide +kernel
theorem dX0_remember_50 : decode cX0_remember 50 = .ok (.iadd, 1) := by decide +kernel
theorem dX0_remember_51 : decode cX0_remember 51 = .ok (.iload_n 3, 1) := by decide +kernel
theorem dX0_remember_52 : decode cX0_remember 52 = .ok (.iastore, 1) := by decide +kernel
theorem dX0_remember_53 : decode cX0_remember 53 = .ok (.aload_n 0, 1) := by decide +kernel
theorem dX0_remember_54 : decode cX0_remember 54 = .ok (.getfield 24, 3) := by decide +kernel
theorem dX0_remember_57 : decode cX0_remember 57 = .ok (.iload 4, 2) := by decide +kernel
theorem dX0_remember_59 : decode cX0_remember 59 = .ok (.iconst 3, 1) := by decide +kernel
theorem dX0_remember_60 : decode cX0_remember 60 = .ok (.iadd, 1) := by decide +kernel
theorem dX0_remember_61 : decode cX0_remember 61 = .ok (.aload_n 0, 1) := by decide +kernel
theorem dX0_remember_62 : decode cX0_remember 62 = .ok (.iload_n 1, 1) := by decide +kernel
theorem dX0_remember_63 : decode cX0_remember 63 = .ok (.invokestatic 126, 3) := by decide +kernel
theorem dX0_remember_66 : decode cX0_remember 66 = .ok (.invokevirtual 77, 3) := by decide +kernel
theorem dX0_remember_69 : decode cX0_remember 69 = .ok (.iastore, 1) := by decide +kernel
theorem dX0_remember_70 : decode cX0_remember 70 = .ok (.aload_n 0, 1) := by decide +kernel
theorem dX0_remember_71 : decode cX0_remember 71 = .ok (.getfield 24, 3) := by decide +kernel
theorem dX0_remember_74 : decode cX0_remember 74 = .ok (.iload 4, 2) := by decide +kernel
theorem dX0_remember_76 : decode cX0_remember 76 = .ok (.iconst 4, 1) := by decide +kernel
theorem dX0_remember_77 : decode cX0_remember 77 = .ok (.iadd, 1) := by decide +kernel
theorem dX0_remember_78 : decode cX0_remember 78 = .ok (.aload_n 0, 1) := by decide +kernel
theorem dX0_remember_79 : decode cX0_remember 79 = .ok (.getfield 49, 3) := by decide +kernel
theorem dX0_remember_82 : decode cX0_remember 82 = .ok (.ifCond .eq 7, 3) := by decide +kernel
theorem dX0_remember_85 : decode cX0_remember 85 = .ok (.iconst 1, 1) := by decide +kernel
theorem dX0_remember_86 : decode cX0_remember 86 = .ok (.goto 4, 3) := by decide +kernel
theorem dX0_remember_89 : decode cX0_remember 89 = .ok (.iconst 0, 1) := by decide +kernel
theorem dX0_remember_90 : decode cX0_remember 90 = .ok (.iastore, 1) := by decide +kernel
theorem dX0_remember_91 : decode cX0_remember 91 = .ok (.return_, 1) := by decide +kernel
set_option maxRecDepth 20000 in
theorem ggX0_carry_X0_holderOf : GoodIn wsX0_carry wsX0_holderOf := goodIn_r _ [5, 6, 16, 17, 18, 19, 20, 21, 22, 23, 24, 25, 26, 27, 28] (by decide +kernel) (by decide +kernel)
set_option maxRecDepth 20000 in
theorem gX0_carry_X0_holderOf : GoodIn wsX0_carry (wsV RX0 132 RX0 yX0_holderOf wsX0_holderOf) := goodIn_app (goodIn_of _ (by decide +kernel)) ggX0_carry_X0_holderOf
set_option maxRecDepth 20000 in
theorem ggX0_carry_X0_clear : GoodIn wsX0_carry wsX0_clear := goodIn_r _ [10, 6, 16, 17, 18, 19, 20, 21, 22, 23, 24, 25, 26, 27, 28] (by decide +kernel) (by decide +kernel)
set_option maxRecDepth 20000 in
theorem gX0_carry_X0_clear : GoodIn wsX0_carry (wsV RX0 135 RX0 yX0_clear wsX0_clear) := goodIn_app (goodIn_of _ (by decide +kernel)) ggX0_carry_X0_clear
set_option maxRecDepth 20000 in
theorem ggX0_carry_X0_put : GoodIn wsX0_carry wsX0_put := goodIn_r _ [14, 6, 15, 16, 17, 18, 19, 20, 21, 22, 23, 24, 25, 26, 27, 28] (by decide +kernel) (by decide +kernel)
set_option maxRecDepth 20000 in
theorem gX0_carry_X0_put : GoodIn wsX0_carry (wsV RX0 81 RX0 yX0_put wsX0_put) := goodIn_app (goodIn_of _ (by decide +kernel)) ggX0_carry_X0_put
theorem dX0_carry_0 : decode cX0_carry 0 = .ok (.aload_n 0, 1) := by decide +kernel
theorem dX0_carry_1 : decode cX0_carry 1 = .ok (.iload_n 1, 1) := by decide +kernel
theorem dX0_carry_2 : decode cX0_carry 2 = .ok (.invokevirtual 132, 3) := by decide +kernel
theorem dX0_carry_5 : decode cX0_carry 5 = .ok (.istore 4, 2) := by decide +kernel
theorem dX0_carry_7 : decode cX0_carry 7 = .ok (.aload_n 0, 1) := by decide +kernel
theorem dX0_carry_8 : decode cX0_carry 8 = .ok (.iload_n 2, 1) := by decide +kernel
theorem dX0_carry_9 : decode cX0_carry 9 = .ok (.invokevirtual 132, 3) := by decide +kernel
theorem dX0_carry_12 : decode cX0_carry 12 = .ok (.istore 5, 2) := by decide +kernel
theorem dX0_carry_14 : decode cX0_carry 14 = .ok (.aload_n 0, 1) := by decide +kernel
theorem dX0_carry_15 : decode cX0_carry 15 = .ok (.iload_n 1, 1) := by decide +kernel
theorem dX0_carry_16 : decode cX0_carry 16 = .ok (.invokevirtual 135, 3) := by decide +kernel
theorem dX0_carry_19 : decode cX0_carry 19 = .ok (.aload_n 0, 1) := by decide +kernel
theorem dX0_carry_20 : decode cX0_carry 20 = .ok (.iload 4, 2) := by decide +kernel
theorem dX0_carry_22 : decode cX0_carry 22 = .ok (.iload_n 2, 1) := by decide +kernel
theorem dX0_carry_23 : decode cX0_carry 23 = .ok (.invokevirtual 81, 3) := by decide +kernel
theorem dX0_carry_26 : decode cX0_carry 26 = .ok (.iload_n 3, 1) := by decide +kernel
theorem dX0_carry_27 : decode cX0_carry 27 = .ok (.iconst (-1), 1) := by decide +kernel
theorem dX0_carry_28 : decode cX0_carry 28 = .ok (.if_icmp .eq 10, 3) := by decide +kernel
theorem dX0_carry_31 : decode cX0_carry 31 = .ok (.aload_n 0, 1) := by decide +kernel
theorem dX0_carry_32 : decode cX0_carry 32 = .ok (.iload 5, 2) := by decide +kernel
theorem dX0_carry_34 : decode cX0_carry 34 = .ok (.iload_n 3, 1) := by decide +kernel
theorem dX0_carry_35 : decode cX0_carry 35 = .ok (.invokevirtual 81, 3) := by decide +kernel
theorem dX0_carry_38 : decode cX0_carry 38 = .ok (.return_, 1) := by decide +kernel
set_option maxRecDepth 20000 in
theorem ggX0_carryBack_X0_holderOf : GoodIn wsX0_carryBack wsX0_holderOf := goodIn_r _ [5, 6, 16, 17, 18, 19, 20, 21, 22, 23, 24, 25, 26, 27, 28] (by decide +kernel) (by decide +kernel)
set_option maxRecDepth 20000 in
theorem gX0_carryBack_X0_holderOf : GoodIn wsX0_carryBack (wsV RX0 132 RX0 yX0_holderOf wsX0_holderOf) := goodIn_app (goodIn_of _ (by decide +kernel)) ggX0_carryBack_X0_holderOf
set_option maxRecDepth 20000 in
theorem ggX0_carryBack_X0_clear : GoodIn wsX0_carryBack wsX0_clear := goodIn_r _ [10, 6, 16, 17, 18, 19, 20, 21, 22, 23, 24, 25, 26, 27, 28] (by decide +kernel) (by decide +kernel)
set_option maxRecDepth 20000 in
theorem gX0_carryBack_X0_clear : GoodIn wsX0_carryBack (wsV RX0 135 RX0 yX0_clear wsX0_clear) := goodIn_app (goodIn_of _ (by decide +kernel)) ggX0_carryBack_X0_clear
set_option maxRecDepth 20000 in
theorem ggX0_carryBack_X0_put : GoodIn wsX0_carryBack wsX0_put := goodIn_r _ [14, 6, 15, 16, 17, 18, 19, 20, 21, 22, 23, 24, 25, 26, 27, 28] (by decide +kernel) (by decide +kernel)
set_option maxRecDepth 20000 in
theorem gX0_carryBack_X0_put : GoodIn wsX0_carryBack (wsV RX0 81 RX0 yX0_put wsX0_put) := goodIn_app (goodIn_of _ (by decide +kernel)) ggX0_carryBack_X0_put
theorem dX0_carryBack_0 : decode cX0_carryBack 0 = .ok (.aload_n 0, 1) := by decide +kernel
theorem dX0_carryBack_1 : decode cX0_carryBack 1 = .ok (.iload_n 2, 1) := by decide +kernel
theorem dX0_carryBack_2 : decode cX0_carryBack 2 = .ok (.invokevirtual 132, 3) := by decide +kernel
theorem dX0_carryBack_5 : decode cX0_carryBack 5 = .ok (.istore 4, 2) := by decide +kernel
theorem dX0_carryBack_7 : decode cX0_carryBack 7 = .ok (.aload_n 0, 1) := by decide +kernel
theorem dX0_carryBack_8 : decode cX0_carryBack 8 = .ok (.iload_n 3, 1) := by decide +kernel
theorem dX0_carryBack_9 : decode cX0_carryBack 9 = .ok (.invokevirtual 132, 3) := by decide +kernel
theorem dX0_carryBack_12 : decode cX0_carryBack 12 = .ok (.istore 5, 2) := by decide +kernel
theorem dX0_carryBack_14 : decode cX0_carryBack 14 = .ok (.aload_n 0, 1) := by decide +kernel
theorem dX0_carryBack_15 : decode cX0_carryBack 15 = .ok (.iload_n 2, 1) := by decide +kernel
theorem dX0_carryBack_16 : decode cX0_carryBack 16 = .ok (.invokevirtual 135, 3) := by decide +kernel
theorem dX0_carryBack_19 : decode cX0_carryBack 19 = .ok (.iload_n 3, 1) := by decide +kernel
theorem dX0_carryBack_20 : decode cX0_carryBack 20 = .ok (.iconst (-1), 1) := by decide +kernel
theorem dX0_carryBack_21 : decode cX0_carryBack 21 = .ok (.if_icmp .eq 15, 3) := by decide +kernel
theorem dX0_carryBack_24 : decode cX0_carryBack 24 = .ok (.aload_n 0, 1) := by decide +kernel
theorem dX0_carryBack_25 : decode cX0_carryBack 25 = .ok (.iload_n 3, 1) := by decide +kernel
theorem dX0_carryBack_26 : decode cX0_carryBack 26 = .ok (.invokevirtual 135, 3) := by decide +kernel
theorem dX0_carryBack_29 : decode cX0_carryBack 29 = .ok (.aload_n 0, 1) := by decide +kernel
theorem dX0_carryBack_30 : decode cX0_carryBack 30 = .ok (.iload 5, 2) := by decide +kernel
theorem dX0_carryBack_32 : decode cX0_carryBack 32 = .ok (.iload_n 2, 1) := by decide +kernel
theorem dX0_carryBack_33 : decode cX0_carryBack 33 = .ok (.invokevirtual 81, 3) := by decide +kernel
theorem dX0_carryBack_36 : decode cX0_carryBack 36 = .ok (.aload_n 0, 1) := by decide +kernel
theorem dX0_carryBack_37 : decode cX0_carryBack 37 = .ok (.iload 4, 2) := by decide +kernel
theorem dX0_carryBack_39 : decode cX0_carryBack 39 = .ok (.iload_n 1, 1) := by decide +kernel
theorem dX0_carryBack_40 : decode cX0_carryBack 40 = .ok (.invokevirtual 81, 3) := by decide +kernel
theorem dX0_carryBack_43 : decode cX0_carryBack 43 = .ok (.return_, 1) := by decide +kernel
theorem dX0_put_0 : decode cX0_put 0 = .ok (.iconst 2, 1) := by decide +kernel
theorem dX0_put_1 : decode cX0_put 1 = .ok (.iload_n 1, 1) := by decide +kernel
theorem dX0_put_2 : decode cX0_put 2 = .ok (.bipush 10, 2) := by decide +kernel
theorem dX0_put_4 : decode cX0_put 4 = .ok (.idiv, 1) := by decide +kernel
theorem dX0_put_5 : decode cX0_put 5 = .ok (.imul, 1) := by decide +kernel
theorem dX0_put_6 : decode cX0_put 6 = .ok (.iload_n 1, 1) := by decide +kernel
theorem dX0_put_7 : decode cX0_put 7 = .ok (.bipush 10, 2) := by decide +kernel
theorem dX0_put_9 : decode cX0_put 9 = .ok (.irem, 1) := by decide +kernel
theorem dX0_put_10 : decode cX0_put 10 = .ok (.iadd, 1) := by decide +kernel
theorem dX0_put_11 : decode cX0_put 11 = .ok (.istore_n 3, 1) := by decide +kernel
theorem dX0_put_12 : decode cX0_put 12 = .ok (.iload_n 2, 1) := by decide +kernel
theorem dX0_put_13 : decode cX0_put 13 = .ok (.ifCond .lt 39, 3) := by decide +kernel
theorem dX0_put_16 : decode cX0_put 16 = .ok (.iload_n 2, 1) := by decide +kernel
theorem dX0_put_17 : decode cX0_put 17 = .ok (.aload_n 0, 1) := by decide +kernel
theorem dX0_put_18 : decode cX0_put 18 = .ok (.getfield 18, 3) := by decide +kernel
theorem dX0_put_21 : decode cX0_put 21 = .ok (.arraylength, 1) := by decide +kernel
theorem dX0_put_22 : decode cX0_put 22 = .ok (.if_icmp .ge 30, 3) := by decide +kernel
theorem dX0_put_25 : decode cX0_put 25 = .ok (.iload_n 3, 1) := by decide +kernel
theorem dX0_put_26 : decode cX0_put 26 = .ok (.ifCond .lt 26, 3) := by decide +kernel
theorem dX0_put_29 : decode cX0_put 29 = .ok (.iload_n 3, 1) := by decide +kernel
theorem dX0_put_30 : decode cX0_put 30 = .ok (.aload_n 0, 1) := by decide +kernel
theorem dX0_put_31 : decode cX0_put 31 = .ok (.getfield 21, 3) := by decide +kernel
theorem dX0_put_34 : decode cX0_put 34 = .ok (.arraylength, 1) := by decide +kernel
theorem dX0_put_35 : decode cX0_put 35 = .ok (.if_icmp .ge 17, 3) := by decide +kernel
theorem dX0_put_38 : decode cX0_put 38 = .ok (.aload_n 0, 1) := by decide +kernel
theorem dX0_put_39 : decode cX0_put 39 = .ok (.getfield 18, 3) := by decide +kernel
theorem dX0_put_42 : decode cX0_put 42 = .ok (.iload_n 2, 1) := by decide +kernel
theorem dX0_put_43 : decode cX0_put 43 = .ok (.iload_n 1, 1) := by decide +kernel
theorem dX0_put_44 : decode cX0_put 44 = .ok (.iastore, 1) := by decide +kernel
theorem dX0_put_45 : decode cX0_put 45 = .ok (.aload_n 0, 1) := by decide +kernel
theorem dX0_put_46 : decode cX0_put 46 = .ok (.getfield 21, 3) := by decide +kernel
theorem dX0_put_49 : decode cX0_put 49 = .ok (.iload_n 3, 1) := by decide +kernel
theorem dX0_put_50 : decode cX0_put 50 = .ok (.iload_n 2, 1) := by decide +kernel
theorem dX0_put_51 : decode cX0_put 51 = .ok (.iastore, 1) := by decide +kernel
theorem dX0_put_52 : decode cX0_put 52 = .ok (.return_, 1) := by decide +kernel
theorem dX0_clear_0 : decode cX0_clear 0 = .ok (.iload_n 1, 1) := by decide +kernel
theorem dX0_clear_1 : decode cX0_clear 1 = .ok (.ifCond .lt 19, 3) := by decide +kernel
theorem dX0_clear_4 : decode cX0_clear 4 = .ok (.iload_n 1, 1) := by decide +kernel
theorem dX0_clear_5 : decode cX0_clear 5 = .ok (.aload_n 0, 1) := by decide +kernel
theorem dX0_clear_6 : decode cX0_clear 6 = .ok (.getfield 18, 3) := by decide +kernel
theorem dX0_clear_9 : decode cX0_clear 9 = .ok (.arraylength, 1) := by decide +kernel
theorem dX0_clear_10 : decode cX0_clear 10 = .ok (.if_icmp .ge 10, 3) := by decide +kernel
theorem dX0_clear_13 : decode cX0_clear 13 = .ok (.aload_n 0, 1) := by decide +kernel
theorem dX0_clear_14 : decode cX0_clear 14 = .ok (.getfield 18, 3) := by decide +kernel
theorem dX0_clear_17 : decode cX0_clear 17 = .ok (.iload_n 1, 1) := by decide +kernel
theorem dX0_clear_18 : decode cX0_clear 18 = .ok (.iconst (-1), 1) := by decide +kernel
theorem dX0_clear_19 : decode cX0_clear 19 = .ok (.iastore, 1) := by decide +kernel
theorem dX0_clear_20 : decode cX0_clear 20 = .ok (.return_, 1) := by decide +kernel
theorem dX0_destinationOf_0 : decode cX0_destinationOf 0 = .ok (.iload_n 0, 1) := by decide +kernel
theorem dX0_destinationOf_1 : decode cX0_destinationOf 1 = .ok (.bipush 100, 2) := by decide +kernel
theorem dX0_destinationOf_3 : decode cX0_destinationOf 3 = .ok (.idiv, 1) := by decide +kernel
theorem dX0_destinationOf_4 : decode cX0_destinationOf 4 = .ok (.bipush 100, 2) := by decide +kernel
theorem dX0_destinationOf_6 : decode cX0_destinationOf 6 = .ok (.irem, 1) := by decide +kernel
theorem dX0_destinationOf_7 : decode cX0_destinationOf 7 = .ok (.ireturn, 1) := by decide +kernel
theorem dX0_builtCellOf_0 : decode cX0_builtCellOf 0 = .ok (.iload_n 0, 1) := by decide +kernel
theorem dX0_builtCellOf_1 : decode cX0_builtCellOf 1 = .ok (.bipush 100, 2) := by decide +kernel
theorem dX0_builtCellOf_3 : decode cX0_builtCellOf 3 = .ok (.irem, 1) := by decide +kernel
theorem dX0_builtCellOf_4 : decode cX0_builtCellOf 4 = .ok (.istore_n 1, 1) := by decide +kernel
theorem dX0_builtCellOf_5 : decode cX0_builtCellOf 5 = .ok (.iload_n 1, 1) := by decide +kernel
theorem dX0_builtCellOf_6 : decode cX0_builtCellOf 6 = .ok (.bipush 99, 2) := by decide +kernel
theorem dX0_builtCellOf_8 : decode cX0_builtCellOf 8 = .ok (.if_icmp .ne 5, 3) := by decide +kernel
theorem dX0_builtCellOf_11 : decode cX0_builtCellOf 11 = .ok (.iconst (-1), 1) := by decide +kernel
theorem dX0_builtCellOf_12 : decode cX0_builtCellOf 12 = .ok (.ireturn, 1) := by decide +kernel
theorem dX0_builtCellOf_13 : decode cX0_builtCellOf 13 = .ok (.iload_n 1, 1) := by decide +kernel
theorem dX0_builtCellOf_14 : decode cX0_builtCellOf 14 = .ok (.bipush 50, 2) := by decide +kernel
theorem dX0_builtCellOf_16 : decode cX0_builtCellOf 16 = .ok (.if_icmp .ge 7, 3) := by decide +kernel
theorem dX0_builtCellOf_19 : decode cX0_builtCellOf 19 = .ok (.iload_n 1, 1) := by decide +kernel
theorem dX0_builtCellOf_20 : decode cX0_builtCellOf 20 = .ok (.goto 7, 3) := by decide +kernel
theorem dX0_builtCellOf_23 : decode cX0_builtCellOf 23 = .ok (.iload_n 1, 1) := by decide +kernel
theorem dX0_builtCellOf_24 : decode cX0_builtCellOf 24 = .ok (.bipush 50, 2) := by decide +kernel
theorem dX0_builtCellOf_26 : decode cX0_builtCellOf 26 = .ok (.isub, 1) := by decide +kernel
theorem dX0_builtCellOf_27 : decode cX0_builtCellOf 27 = .ok (.ireturn, 1) := by decide +kernel
theorem dX0_powerOf_0 : decode cX0_powerOf 0 = .ok (.iload_n 1, 1) := by decide +kernel
theorem dX0_powerOf_1 : decode cX0_powerOf 1 = .ok (.ifCond .ne 10, 3) := by decide +kernel
theorem dX0_powerOf_4 : decode cX0_powerOf 4 = .ok (.aload_n 0, 1) := by decide +kernel
theorem dX0_powerOf_5 : decode cX0_powerOf 5 = .ok (.getfield 34, 3) := by decide +kernel
theorem dX0_powerOf_8 : decode cX0_powerOf 8 = .ok (.goto 7, 3) := by decide +kernel
theorem dX0_powerOf_11 : decode cX0_powerOf 11 = .ok (.aload_n 0, 1) := by decide +kernel
theorem dX0_powerOf_12 : decode cX0_powerOf 12 = .ok (.getfield 37, 3) := by decide +kernel
theorem dX0_powerOf_15 : decode cX0_powerOf 15 = .ok (.ireturn, 1) := by decide +kernel
theorem dX0_spotOf_0 : decode cX0_spotOf 0 = .ok (.iconst 2, 1) := by decide +kernel
theorem dX0_spotOf_1 : decode cX0_spotOf 1 = .ok (.iload_n 1, 1) := by decide +kernel
theorem dX0_spotOf_2 : decode cX0_spotOf 2 = .ok (.imul, 1) := by decide +kernel
theorem dX0_spotOf_3 : decode cX0_spotOf 3 = .ok (.iload_n 2, 1) := by decide +kernel
theorem dX0_spotOf_4 : decode cX0_spotOf 4 = .ok (.iadd, 1) := by decide +kernel
theorem dX0_spotOf_5 : decode cX0_spotOf 5 = .ok (.istore_n 3, 1) := by decide +kernel
theorem dX0_spotOf_6 : decode cX0_spotOf 6 = .ok (.iload_n 3, 1) := by decide +kernel
theorem dX0_spotOf_7 : decode cX0_spotOf 7 = .ok (.ifCond .lt 21, 3) := by decide +kernel
theorem dX0_spotOf_10 : decode cX0_spotOf 10 = .ok (.iload_n 3, 1) := by decide +kernel
theorem dX0_spotOf_11 : decode cX0_spotOf 11 = .ok (.aload_n 0, 1) := by decide +kernel
theorem dX0_spotOf_12 : decode cX0_spotOf 12 = .ok (.getfield 21, 3) := by decide +kernel
theorem dX0_spotOf_15 : decode cX0_spotOf 15 = .ok (.arraylength, 1) := by decide +kernel
theorem dX0_spotOf_16 : decode cX0_spotOf 16 = .ok (.if_icmp .ge 12, 3) := by decide +kernel
theorem dX0_spotOf_19 : decode cX0_spotOf 19 = .ok (.aload_n 0, 1) := by decide +kernel
theorem dX0_spotOf_20 : decode cX0_spotOf 20 = .ok (.getfield 21, 3) := by decide +kernel
theorem dX0_spotOf_23 : decode cX0_spotOf 23 = .ok (.iload_n 3, 1) := by decide +kernel
theorem dX0_spotOf_24 : decode cX0_spotOf 24 = .ok (.iaload, 1) := by decide +kernel
theorem dX0_spotOf_25 : decode cX0_spotOf 25 = .ok (.goto 4, 3) := by decide +kernel
theorem dX0_spotOf_28 : decode cX0_spotOf 28 = .ok (.iconst (-1), 1) := by decide +kernel
theorem dX0_spotOf_29 : decode cX0_spotOf 29 = .ok (.ireturn, 1) := by decide +kernel
theorem dX0_neighbourOf_0 : decode cX0_neighbourOf 0 = .ok (.iload_n 1, 1) := by decide +kernel
theorem dX0_neighbourOf_1 : decode cX0_neighbourOf 1 = .ok (.bipush 8, 2) := by decide +kernel
theorem dX0_neighbourOf_3 : decode cX0_neighbourOf 3 = .ok (.imul, 1) := by decide +kernel
theorem dX0_neighbourOf_4 : decode cX0_neighbourOf 4 = .ok (.iload_n 2, 1) := by decide +kernel
theorem dX0_neighbourOf_5 : decode cX0_neighbourOf 5 = .ok (.iadd, 1) := by decide +kernel
theorem dX0_neighbourOf_6 : decode cX0_neighbourOf 6 = .ok (.istore_n 3, 1) := by decide +kernel
theorem dX0_neighbourOf_7 : decode cX0_neighbourOf 7 = .ok (.iload_n 3, 1) := by decide +kernel
theorem dX0_neighbourOf_8 : decode cX0_neighbourOf 8 = .ok (.ifCond .lt 21, 3) := by decide +kernel
theorem dX0_neighbourOf_11 : decode cX0_neighbourOf 11 = .ok (.iload_n 3, 1) := by decide +kernel
theorem dX0_neighbourOf_12 : decode cX0_neighbourOf 12 = .ok (.aload_n 0, 1) := by decide +kernel
theorem dX0_neighbourOf_13 : decode cX0_neighbourOf 13 = .ok (.getfield 11, 3) := by decide +kernel
theorem dX0_neighbourOf_16 : decode cX0_neighbourOf 16 = .ok (.arraylength, 1) := by decide +kernel
theorem dX0_neighbourOf_17 : decode cX0_neighbourOf 17 = .ok (.if_icmp .ge 12, 3) := by decide +kernel
theorem dX0_neighbourOf_20 : decode cX0_neighbourOf 20 = .ok (.aload_n 0, 1) := by decide +kernel
theorem dX0_neighbourOf_21 : decode cX0_neighbourOf 21 = .ok (.getfield 11, 3) := by decide +kernel
theorem dX0_neighbourOf_24 : decode cX0_neighbourOf 24 = .ok (.iload_n 3, 1) := by decide +kernel
theorem dX0_neighbourOf_25 : decode cX0_neighbourOf 25 = .ok (.iaload, 1) := by decide +kernel
theorem dX0_neighbourOf_26 : decode cX0_neighbourOf 26 = .ok (.goto 4, 3) := by decide +kernel
theorem dX0_neighbourOf_29 : decode cX0_neighbourOf 29 = .ok (.iconst (-1), 1) := by decide +kernel
theorem dX0_neighbourOf_30 : decode cX0_neighbourOf 30 = .ok (.ireturn, 1) := by decide +kernel
set_option maxRecDepth 20000 in
theorem ggX0_asideOf_X0_holderOf : GoodIn wsX0_asideOf wsX0_holderOf := goodIn_r _ [5, 6, 13, 14, 15, 16, 17, 18, 19, 20, 21, 22, 23, 24, 25] (by decide +kernel) (by decide +kernel)
set_option maxRecDepth 20000 in
theorem gX0_asideOf_X0_holderOf : GoodIn wsX0_asideOf (wsV RX0 132 RX0 yX0_holderOf wsX0_holderOf) := goodIn_app (goodIn_of _ (by decide +kernel)) ggX0_asideOf_X0_holderOf
set_option maxRecDepth 20000 in
theorem ggX0_asideOf_X0_powerOf : GoodIn wsX0_asideOf wsX0_powerOf := goodIn_r _ [10, 11, 12, 13, 14, 15, 16, 17, 18, 19, 20, 21, 22, 23, 24, 25] (by decide +kernel) (by decide +kernel)
set_option maxRecDepth 20000 in
theorem gX0_asideOf_X0_powerOf : GoodIn wsX0_asideOf (wsV RX0 117 RX0 yX0_powerOf wsX0_powerOf) := goodIn_app (goodIn_of _ (by decide +kernel)) ggX0_asideOf_X0_powerOf
theorem dX0_asideOf_0 : decode cX0_asideOf 0 = .ok (.aload_n 0, 1) := by decide +kernel
theorem dX0_asideOf_1 : decode cX0_asideOf 1 = .ok (.iload_n 3, 1) := by decide +kernel
theorem dX0_asideOf_2 : decode cX0_asideOf 2 = .ok (.invokevirtual 132, 3) := by decide +kernel
theorem dX0_asideOf_5 : decode cX0_asideOf 5 = .ok (.iconst (-1), 1) := by decide +kernel
theorem dX0_asideOf_6 : decode cX0_asideOf 6 = .ok (.if_icmp .ne 5, 3) := by decide +kernel
theorem dX0_asideOf_9 : decode cX0_asideOf 9 = .ok (.iconst (-1), 1) := by decide +kernel
theorem dX0_asideOf_10 : decode cX0_asideOf 10 = .ok (.ireturn, 1) := by decide +kernel
theorem dX0_asideOf_11 : decode cX0_asideOf 11 = .ok (.aload_n 0, 1) := by decide +kernel
theorem dX0_asideOf_12 : decode cX0_asideOf 12 = .ok (.iload_n 1, 1) := by decide +kernel
theorem dX0_asideOf_13 : decode cX0_asideOf 13 = .ok (.invokevirtual 117, 3) := by decide +kernel
theorem dX0_asideOf_16 : decode cX0_asideOf 16 = .ok (.iconst 2, 1) := by decide +kernel
theorem dX0_asideOf_17 : decode cX0_asideOf 17 = .ok (.if_icmp .ne 7, 3) := by decide +kernel
theorem dX0_asideOf_20 : decode cX0_asideOf 20 = .ok (.iload_n 2, 1) := by decide +kernel
theorem dX0_asideOf_21 : decode cX0_asideOf 21 = .ok (.goto 8, 3) := by decide +kernel
theorem dX0_asideOf_24 : decode cX0_asideOf 24 = .ok (.iload_n 3, 1) := by decide +kernel
theorem dX0_asideOf_25 : decode cX0_asideOf 25 = .ok (.iload_n 3, 1) := by decide +kernel
theorem dX0_asideOf_26 : decode cX0_asideOf 26 = .ok (.iload_n 2, 1) := by decide +kernel
theorem dX0_asideOf_27 : decode cX0_asideOf 27 = .ok (.isub, 1) := by decide +kernel
theorem dX0_asideOf_28 : decode cX0_asideOf 28 = .ok (.iadd, 1) := by decide +kernel
theorem dX0_asideOf_29 : decode cX0_asideOf 29 = .ok (.ireturn, 1) := by decide +kernel
set_option maxRecDepth 20000 in
theorem ggX0_hasTurn_X0_spotOf : GoodIn wsX0_hasTurn wsX0_spotOf := goodIn_r _ [6, 7, 54, 55, 56, 57, 58, 59, 60, 61, 62, 63, 64, 65, 66] (by decide +kernel) (by decide +kernel)
set_option maxRecDepth 20000 in
theorem gX0_hasTurn_X0_spotOf : GoodIn wsX0_hasTurn (wsV RX0 73 RX0 yX0_spotOf wsX0_spotOf) := goodIn_app (goodIn_of _ (by decide +kernel)) ggX0_hasTurn_X0_spotOf
set_option maxRecDepth 20000 in
theorem ggX0_hasTurn_X0_stepOf : GoodIn wsX0_hasTurn wsX0_stepOf := goodIn_r _ [11, 12, 13, 14, 15, 5, 16, 17, 18, 19, 20, 21, 22, 23, 24, 25, 26, 27, 28, 29, 30, 31, 32, 33, 34, 35, 36, 37, 38, 39, 40, 41, 54, 55, 56, 57, 58, 59, 60, 61, 62, 63, 64, 65, 66] (by decide +kernel) (by decide +kernel)
set_option maxRecDepth 20000 in
theorem gX0_hasTurn_X0_stepOf : GoodIn wsX0_hasTurn (wsV RX0 137 RX0 yX0_stepOf wsX0_stepOf) := goodIn_app (goodIn_of _ (by decide +kernel)) ggX0_hasTurn_X0_stepOf
set_option maxRecDepth 20000 in
theorem ggX0_hasTurn_X0_neighbourOf : GoodIn wsX0_hasTurn wsX0_neighbourOf := goodIn_r _ [16, 17, 54, 55, 56, 57, 58, 59, 60, 61, 62, 63, 64, 65, 66] (by decide +kernel) (by decide +kernel)
set_option maxRecDepth 20000 in
theorem gX0_hasTurn_X0_neighbourOf : GoodIn wsX0_hasTurn (wsV RX0 141 RX0 yX0_neighbourOf wsX0_neighbourOf) := goodIn_app (goodIn_of _ (by decide +kernel)) ggX0_hasTurn_X0_neighbourOf
set_option maxRecDepth 20000 in
theorem ggX0_hasTurn_X0_canBuild : GoodIn wsX0_hasTurn wsX0_canBuild := goodIn_r _ [45, 46, 47, 48, 5, 49, 27, 28, 29, 30, 31, 36, 37, 38, 39, 40, 41, 13, 14, 15, 16, 17, 50, 51, 52, 53, 32, 33, 34, 35, 22, 54, 55, 56, 57, 58, 59, 60, 61, 62, 63, 64, 65, 66] (by decide +kernel) (by decide +kernel)
set_option maxRecDepth 20000 in
theorem gX0_hasTurn_X0_canBuild : GoodIn wsX0_hasTurn (wsV RX0 144 RX0 yX0_canBuild wsX0_canBuild) := goodIn_app (goodIn_of _ (by decide +kernel)) ggX0_hasTurn_X0_canBuild
theorem dX0_hasTurn_0 : decode cX0_hasTurn 0 = .ok (.iconst 0, 1) := by decide +kernel
theorem dX0_hasTurn_1 : decode cX0_hasTurn 1 = .ok (.istore_n 2, 1) := by decide +kernel
theorem dX0_hasTurn_2 : decode cX0_hasTurn 2 = .ok (.iload_n 2, 1) := by decide +kernel
theorem dX0_hasTurn_3 : decode cX0_hasTurn 3 = .ok (.aload_n 0, 1) := by decide +kernel
theorem dX0_hasTurn_4 : decode cX0_hasTurn 4 = .ok (.getfield 31, 3) := by decide +kernel
theorem dX0_hasTurn_7 : decode cX0_hasTurn 7 = .ok (.if_icmp .ge 77, 3) := by decide +kernel
theorem dX0_hasTurn_10 : decode cX0_hasTurn 10 = .ok (.aload_n 0, 1) := by decide +kernel
theorem dX0_hasTurn_11 : decode cX0_hasTurn 11 = .ok (.iload_n 1, 1) := by decide +kernel
theorem dX0_hasTurn_12 : decode cX0_hasTurn 12 = .ok (.iload_n 2, 1) := by decide +kernel
theorem dX0_hasTurn_13 : decode cX0_hasTurn 13 = .ok (.invokevirtual 73, 3) := by decide +kernel
theorem dX0_hasTurn_16 : decode cX0_hasTurn 16 = .ok (.istore_n 3, 1) := by decide +kernel
theorem dX0_hasTurn_17 : decode cX0_hasTurn 17 = .ok (.iconst 0, 1) := by decide +kernel
theorem dX0_hasTurn_18 : decode cX0_hasTurn 18 = .ok (.istore 4, 2) := by decide +kernel
theorem dX0_hasTurn_20 : decode cX0_hasTurn 20 = .ok (.iload 4, 2) := by decide +kernel
theorem dX0_hasTurn_22 : decode cX0_hasTurn 22 = .ok (.bipush 8, 2) := by decide +kernel
theorem dX0_hasTurn_24 : decode cX0_hasTurn 24 = .ok (.if_icmp .ge 54, 3) := by decide +kernel
theorem dX0_hasTurn_27 : decode cX0_hasTurn 27 = .ok (.aload_n 0, 1) := by decide +kernel
theorem dX0_hasTurn_28 : decode cX0_hasTurn 28 = .ok (.iload_n 1, 1) := by decide +kernel
theorem dX0_hasTurn_29 : decode cX0_hasTurn 29 = .ok (.iload_n 3, 1) := by decide +kernel
theorem dX0_hasTurn_30 : decode cX0_hasTurn 30 = .ok (.iload 4, 2) := by decide +kernel
theorem dX0_hasTurn_32 : decode cX0_hasTurn 32 = .ok (.invokevirtual 137, 3) := by decide +kernel
theorem dX0_hasTurn_35 : decode cX0_hasTurn 35 = .ok (.lstore 5, 2) := by decide +kernel
theorem dX0_hasTurn_37 : decode cX0_hasTurn 37 = .ok (.lload 5, 2) := by decide +kernel
theorem dX0_hasTurn_39 : decode cX0_hasTurn 39 = .ok (.bipush 32, 2) := by decide +kernel
theorem dX0_hasTurn_41 : decode cX0_hasTurn 41 = .ok (.lshr, 1) := by decide +kernel
theorem dX0_hasTurn_42 : decode cX0_hasTurn 42 = .ok (.lconst 0, 1) := by decide +kernel
theorem dX0_hasTurn_43 : decode cX0_hasTurn 43 = .ok (.lcmp, 1) := by decide +kernel
theorem dX0_hasTurn_44 : decode cX0_hasTurn 44 = .ok (.ifCond .ne 26, 3) := by decide +kernel
theorem dX0_hasTurn_47 : decode cX0_hasTurn 47 = .ok (.lload 5, 2) := by decide +kernel
theorem dX0_hasTurn_49 : decode cX0_hasTurn 49 = .ok (.lconst 0, 1) := by decide +kernel
theorem dX0_hasTurn_50 : decode cX0_hasTurn 50 = .ok (.lcmp, 1) := by decide +kernel
theorem dX0_hasTurn_51 : decode cX0_hasTurn 51 = .ok (.ifCond .eq 21, 3) := by decide +kernel
theorem dX0_hasTurn_54 : decode cX0_hasTurn 54 = .ok (.aload_n 0, 1) := by decide +kernel
theorem dX0_hasTurn_55 : decode cX0_hasTurn 55 = .ok (.iload_n 1, 1) := by decide +kernel
theorem dX0_hasTurn_56 : decode cX0_hasTurn 56 = .ok (.iload_n 3, 1) := by decide +kernel
theorem dX0_hasTurn_57 : decode cX0_hasTurn 57 = .ok (.aload_n 0, 1) := by decide +kernel
theorem dX0_hasTurn_58 : decode cX0_hasTurn 58 = .ok (.iload_n 3, 1) := by decide +kernel
theorem dX0_hasTurn_59 : decode cX0_hasTurn 59 = .ok (.iload 4, 2) := by decide +kernel
theorem dX0_hasTurn_61 : decode cX0_hasTurn 61 = .ok (.invokevirtual 141, 3) := by decide +kernel
theorem dX0_hasTurn_64 : decode cX0_hasTurn 64 = .ok (.invokevirtual 144, 3) := by decide +kernel
theorem dX0_hasTurn_67 : decode cX0_hasTurn 67 = .ok (.ifCond .eq 5, 3) := by decide +kernel
theorem dX0_hasTurn_70 : decode cX0_hasTurn 70 = .ok (.iconst 1, 1) := by decide +kernel
theorem dX0_hasTurn_71 : decode cX0_hasTurn 71 = .ok (.ireturn, 1) := by decide +kernel
theorem dX0_hasTurn_72 : decode cX0_hasTurn 72 = .ok (.iinc 4 1, 3) := by decide +kernel
theorem dX0_hasTurn_75 : decode cX0_hasTurn 75 = .ok (.goto (-55), 3) := by decide +kernel
theorem dX0_hasTurn_78 : decode cX0_hasTurn 78 = .ok (.iinc 2 1, 3) := by decide +kernel
theorem dX0_hasTurn_81 : decode cX0_hasTurn 81 = .ok (.goto (-79), 3) := by decide +kernel
theorem dX0_hasTurn_84 : decode cX0_hasTurn 84 = .ok (.iconst 0, 1) := by decide +kernel
theorem dX0_hasTurn_85 : decode cX0_hasTurn 85 = .ok (.ireturn, 1) := by decide +kernel
set_option maxRecDepth 20000 in
theorem ggX0_reachOf_X0_stepOf : GoodIn wsX0_reachOf wsX0_stepOf := goodIn_r _ [6, 7, 8, 9, 10, 5, 11, 12, 13, 14, 15, 16, 17, 18, 19, 20, 21, 22, 23, 24, 25, 26, 27, 28, 29, 30, 31, 32, 33, 34, 35, 36, 37, 38, 39, 40, 41, 42, 43, 44, 45, 46, 47, 48, 49] (by decide +kernel) (by decide +kernel)
set_option maxRecDepth 20000 in
theorem gX0_reachOf_X0_stepOf : GoodIn wsX0_reachOf (wsV RX0 137 RX0 yX0_stepOf wsX0_stepOf) := goodIn_app (goodIn_of _ (by decide +kernel)) ggX0_reachOf_X0_stepOf
set_option maxRecDepth 20000 in
theorem ggX0_reachOf_X0_powerOf : GoodIn wsX0_reachOf wsX0_powerOf := goodIn_r _ [34, 35, 36, 37, 38, 39, 40, 41, 42, 43, 44, 45, 46, 47, 48, 49] (by decide +kernel) (by decide +kernel)
set_option maxRecDepth 20000 in
theorem gX0_reachOf_X0_powerOf : GoodIn wsX0_reachOf (wsV RX0 117 RX0 yX0_powerOf wsX0_powerOf) := goodIn_app (goodIn_of _ (by decide +kernel)) ggX0_reachOf_X0_powerOf
theorem dX0_reachOf_0 : decode cX0_reachOf 0 = .ok (.lconst 0, 1) := by decide +kernel
theorem dX0_reachOf_1 : decode cX0_reachOf 1 = .ok (.lstore_n 3, 1) := by decide +kernel
theorem dX0_reachOf_2 : decode cX0_reachOf 2 = .ok (.iconst 0, 1) := by decide +kernel
theorem dX0_reachOf_3 : decode cX0_reachOf 3 = .ok (.istore 5, 2) := by decide +kernel
theorem dX0_reachOf_5 : decode cX0_reachOf 5 = .ok (.iload 5, 2) := by decide +kernel
theorem dX0_reachOf_7 : decode cX0_reachOf 7 = .ok (.bipush 8, 2) := by decide +kernel
theorem dX0_reachOf_9 : decode cX0_reachOf 9 = .ok (.if_icmp .ge 20, 3) := by decide +kernel
theorem dX0_reachOf_12 : decode cX0_reachOf 12 = .ok (.lload_n 3, 1) := by decide +kernel
theorem dX0_reachOf_13 : decode cX0_reachOf 13 = .ok (.aload_n 0, 1) := by decide +kernel
theorem dX0_reachOf_14 : decode cX0_reachOf 14 = .ok (.iload_n 1, 1) := by decide +kernel
theorem dX0_reachOf_15 : decode cX0_reachOf 15 = .ok (.iload_n 2, 1) := by decide +kernel
theorem dX0_reachOf_16 : decode cX0_reachOf 16 = .ok (.iload 5, 2) := by decide +kernel
theorem dX0_reachOf_18 : decode cX0_reachOf 18 = .ok (.invokevirtual 137, 3) := by decide +kernel
theorem dX0_reachOf_21 : decode cX0_reachOf 21 = .ok (.lor, 1) := by decide +kernel
theorem dX0_reachOf_22 : decode cX0_reachOf 22 = .ok (.lstore_n 3, 1) := by decide +kernel
theorem dX0_reachOf_23 : decode cX0_reachOf 23 = .ok (.iinc 5 1, 3) := by decide +kernel
theorem dX0_reachOf_26 : decode cX0_reachOf 26 = .ok (.goto (-21), 3) := by decide +kernel
theorem dX0_reachOf_29 : decode cX0_reachOf 29 = .ok (.aload_n 0, 1) := by decide +kernel
theorem dX0_reachOf_30 : decode cX0_reachOf 30 = .ok (.iload_n 1, 1) := by decide +kernel
theorem dX0_reachOf_31 : decode cX0_reachOf 31 = .ok (.invokevirtual 117, 3) := by decide +kernel
theorem dX0_reachOf_34 : decode cX0_reachOf 34 = .ok (.iconst 1, 1) := by decide +kernel
theorem dX0_reachOf_35 : decode cX0_reachOf 35 = .ok (.if_icmp .eq 5, 3) := by decide +kernel
theorem dX0_reachOf_38 : decode cX0_reachOf 38 = .ok (.lload_n 3, 1) := by decide +kernel
theorem dX0_reachOf_39 : decode cX0_reachOf 39 = .ok (.lreturn, 1) := by decide +kernel
theorem dX0_reachOf_40 : decode cX0_reachOf 40 = .ok (.lload_n 3, 1) := by decide +kernel
theorem dX0_reachOf_41 : decode cX0_reachOf 41 = .ok (.lstore 5, 2) := by decide +kernel
theorem dX0_reachOf_43 : decode cX0_reachOf 43 = .ok (.iconst 0, 1) := by decide +kernel
theorem dX0_reachOf_44 : decode cX0_reachOf 44 = .ok (.istore 7, 2) := by decide +kernel
theorem dX0_reachOf_46 : decode cX0_reachOf 46 = .ok (.iload 7, 2) := by decide +kernel
theorem dX0_reachOf_48 : decode cX0_reachOf 48 = .ok (.aload_n 0, 1) := by decide +kernel
theorem dX0_reachOf_49 : decode cX0_reachOf 49 = .ok (.getfield 27, 3) := by decide +kernel
theorem dX0_reachOf_52 : decode cX0_reachOf 52 = .ok (.if_icmp .ge 53, 3) := by decide +kernel
theorem dX0_reachOf_55 : decode cX0_reachOf 55 = .ok (.lload_n 3, 1) := by decide +kernel
theorem dX0_reachOf_56 : decode cX0_reachOf 56 = .ok (.iload 7, 2) := by decide +kernel
theorem dX0_reachOf_58 : decode cX0_reachOf 58 = .ok (.lshr, 1) := by decide +kernel
theorem dX0_reachOf_59 : decode cX0_reachOf 59 = .ok (.lconst 1, 1) := by decide +kernel
theorem dX0_reachOf_60 : decode cX0_reachOf 60 = .ok (.land, 1) := by decide +kernel
theorem dX0_reachOf_61 : decode cX0_reachOf 61 = .ok (.lconst 0, 1) := by decide +kernel
theorem dX0_reachOf_62 : decode cX0_reachOf 62 = .ok (.lcmp, 1) := by decide +kernel
theorem dX0_reachOf_63 : decode cX0_reachOf 63 = .ok (.ifCond .ne 6, 3) := by decide +kernel
theorem dX0_reachOf_66 : decode cX0_reachOf 66 = .ok (.goto 33, 3) := by decide +kernel
theorem dX0_reachOf_69 : decode cX0_reachOf 69 = .ok (.iconst 0, 1) := by decide +kernel
theorem dX0_reachOf_70 : decode cX0_reachOf 70 = .ok (.istore 8, 2) := by decide +kernel
theorem dX0_reachOf_72 : decode cX0_reachOf 72 = .ok (.iload 8, 2) := by decide +kernel
theorem dX0_reachOf_74 : decode cX0_reachOf 74 = .ok (.bipush 8, 2) := by decide +kernel
theorem dX0_reachOf_76 : decode cX0_reachOf 76 = .ok (.if_icmp .ge 23, 3) := by decide +kernel
theorem dX0_reachOf_79 : decode cX0_reachOf 79 = .ok (.lload 5, 2) := by decide +kernel
theorem dX0_reachOf_81 : decode cX0_reachOf 81 = .ok (.aload_n 0, 1) := by decide +kernel
theorem dX0_reachOf_82 : decode cX0_reachOf 82 = .ok (.iload_n 1, 1) := by decide +kernel
theorem dX0_reachOf_83 : decode cX0_reachOf 83 = .ok (.iload 7, 2) := by decide +kernel
theorem dX0_reachOf_85 : decode cX0_reachOf 85 = .ok (.iload 8, 2) := by decide +kernel
theorem dX0_reachOf_87 : decode cX0_reachOf 87 = .ok (.invokevirtual 137, 3) := by decide +kernel
theorem dX0_reachOf_90 : decode cX0_reachOf 90 = .ok (.lor, 1) := by decide +kernel
theorem dX0_reachOf_91 : decode cX0_reachOf 91 = .ok (.lstore 5, 2) := by decide +kernel
theorem dX0_reachOf_93 : decode cX0_reachOf 93 = .ok (.iinc 8 1, 3) := by decide +kernel
theorem dX0_reachOf_96 : decode cX0_reachOf 96 = .ok (.goto (-24), 3) := by decide +kernel
theorem dX0_reachOf_99 : decode cX0_reachOf 99 = .ok (.iinc 7 1, 3) := by decide +kernel
theorem dX0_reachOf_102 : decode cX0_reachOf 102 = .ok (.goto (-56), 3) := by decide +kernel
theorem dX0_reachOf_105 : decode cX0_reachOf 105 = .ok (.lload 5, 2) := by decide +kernel
theorem dX0_reachOf_107 : decode cX0_reachOf 107 = .ok (.lreturn, 1) := by decide +kernel
set_option maxRecDepth 20000 in
theorem ggX0_stepOf_X0_neighbourOf : GoodIn wsX0_stepOf wsX0_neighbourOf := goodIn_r _ [6, 7, 32, 33, 34, 35, 36, 37, 38, 39, 40, 41, 42, 43, 44] (by decide +kernel) (by decide +kernel)
set_option maxRecDepth 20000 in
theorem gX0_stepOf_X0_neighbourOf : GoodIn wsX0_stepOf (wsV RX0 141 RX0 yX0_neighbourOf wsX0_neighbourOf) := goodIn_app (goodIn_of _ (by decide +kernel)) ggX0_stepOf_X0_neighbourOf
set_option maxRecDepth 20000 in
theorem ggX0_stepOf_X0_storeysOf : GoodIn wsX0_stepOf wsX0_storeysOf := goodIn_r _ [11, 12, 32, 33, 34, 35, 36, 37, 38, 39, 40, 41, 42, 43, 44] (by decide +kernel) (by decide +kernel)
set_option maxRecDepth 20000 in
theorem gX0_stepOf_X0_storeysOf : GoodIn wsX0_stepOf (wsV RX0 77 RX0 yX0_storeysOf wsX0_storeysOf) := goodIn_app (goodIn_of _ (by decide +kernel)) ggX0_stepOf_X0_storeysOf
set_option maxRecDepth 20000 in
theorem ggX0_stepOf_X0_canEnter : GoodIn wsX0_stepOf wsX0_canEnter := goodIn_r _ [16, 17, 18, 19, 5, 20, 21, 22, 23, 24, 25, 12, 26, 27, 28, 29, 30, 31, 2, 3, 4, 6, 7, 32, 33, 34, 35, 36, 37, 38, 39, 40, 41, 42, 43, 44] (by decide +kernel) (by decide +kernel)
set_option maxRecDepth 20000 in
theorem gX0_stepOf_X0_canEnter : GoodIn wsX0_stepOf (wsV RX0 148 RX0 yX0_canEnter wsX0_canEnter) := goodIn_app (goodIn_of _ (by decide +kernel)) ggX0_stepOf_X0_canEnter
set_option maxRecDepth 20000 in
theorem ggX0_stepOf_X0_powerOf : GoodIn wsX0_stepOf wsX0_powerOf := goodIn_r _ [29, 30, 31, 32, 33, 34, 35, 36, 37, 38, 39, 40, 41, 42, 43, 44] (by decide +kernel) (by decide +kernel)
set_option maxRecDepth 20000 in
theorem gX0_stepOf_X0_powerOf : GoodIn wsX0_stepOf (wsV RX0 117 RX0 yX0_powerOf wsX0_powerOf) := goodIn_app (goodIn_of _ (by decide +kernel)) ggX0_stepOf_X0_powerOf
theorem dX0_stepOf_0 : decode cX0_stepOf 0 = .ok (.aload_n 0, 1) := by decide +kernel
theorem dX0_stepOf_1 : decode cX0_stepOf 1 = .ok (.iload_n 2, 1) := by decide +kernel
theorem dX0_stepOf_2 : decode cX0_stepOf 2 = .ok (.iload_n 3, 1) := by decide +kernel
theorem dX0_stepOf_3 : decode cX0_stepOf 3 = .ok (.invokevirtual 141, 3) := by decide +kernel
theorem dX0_stepOf_6 : decode cX0_stepOf 6 = .ok (.istore 4, 2) := by decide +kernel
theorem dX0_stepOf_8 : decode cX0_stepOf 8 = .ok (.aload_n 0, 1) := by decide +kernel
theorem dX0_stepOf_9 : decode cX0_stepOf 9 = .ok (.iload 4, 2) := by decide +kernel
theorem dX0_stepOf_11 : decode cX0_stepOf 11 = .ok (.invokevirtual 77, 3) := by decide +kernel
theorem dX0_stepOf_14 : decode cX0_stepOf 14 = .ok (.aload_n 0, 1) := by decide +kernel
theorem dX0_stepOf_15 : decode cX0_stepOf 15 = .ok (.iload_n 2, 1) := by decide +kernel
theorem dX0_stepOf_16 : decode cX0_stepOf 16 = .ok (.invokevirtual 77, 3) := by decide +kernel
theorem dX0_stepOf_19 : decode cX0_stepOf 19 = .ok (.isub, 1) := by decide +kernel
theorem dX0_stepOf_20 : decode cX0_stepOf 20 = .ok (.istore 5, 2) := by decide +kernel
theorem dX0_stepOf_22 : decode cX0_stepOf 22 = .ok (.aload_n 0, 1) := by decide +kernel
theorem dX0_stepOf_23 : decode cX0_stepOf 23 = .ok (.getfield 49, 3) := by decide +kernel
theorem dX0_stepOf_26 : decode cX0_stepOf 26 = .ok (.ifCond .eq 7, 3) := by decide +kernel
theorem dX0_stepOf_29 : decode cX0_stepOf 29 = .ok (.iconst 0, 1) := by decide +kernel
theorem dX0_stepOf_30 : decode cX0_stepOf 30 = .ok (.goto 4, 3) := by decide +kernel
theorem dX0_stepOf_33 : decode cX0_stepOf 33 = .ok (.iconst 1, 1) := by decide +kernel
theorem dX0_stepOf_34 : decode cX0_stepOf 34 = .ok (.istore 6, 2) := by decide +kernel
theorem dX0_stepOf_36 : decode cX0_stepOf 36 = .ok (.iload 4, 2) := by decide +kernel
theorem dX0_stepOf_38 : decode cX0_stepOf 38 = .ok (.iconst (-1), 1) := by decide +kernel
theorem dX0_stepOf_39 : decode cX0_stepOf 39 = .ok (.if_icmp .eq 21, 3) := by decide +kernel
theorem dX0_stepOf_42 : decode cX0_stepOf 42 = .ok (.iload 5, 2) := by decide +kernel
theorem dX0_stepOf_44 : decode cX0_stepOf 44 = .ok (.iload 6, 2) := by decide +kernel
theorem dX0_stepOf_46 : decode cX0_stepOf 46 = .ok (.if_icmp .gt 14, 3) := by decide +kernel
theorem dX0_stepOf_49 : decode cX0_stepOf 49 = .ok (.aload_n 0, 1) := by decide +kernel
theorem dX0_stepOf_50 : decode cX0_stepOf 50 = .ok (.iload_n 1, 1) := by decide +kernel
theorem dX0_stepOf_51 : decode cX0_stepOf 51 = .ok (.iload 4, 2) := by decide +kernel
theorem dX0_stepOf_53 : decode cX0_stepOf 53 = .ok (.iload_n 3, 1) := by decide +kernel
theorem dX0_stepOf_54 : decode cX0_stepOf 54 = .ok (.invokevirtual 148, 3) := by decide +kernel
theorem dX0_stepOf_57 : decode cX0_stepOf 57 = .ok (.ifCond .ne 5, 3) := by decide +kernel
theorem dX0_stepOf_60 : decode cX0_stepOf 60 = .ok (.lconst 0, 1) := by decide +kernel
theorem dX0_stepOf_61 : decode cX0_stepOf 61 = .ok (.lreturn, 1) := by decide +kernel
theorem dX0_stepOf_62 : decode cX0_stepOf 62 = .ok (.iload 5, 2) := by decide +kernel
theorem dX0_stepOf_64 : decode cX0_stepOf 64 = .ok (.ifCond .le 13, 3) := by decide +kernel
theorem dX0_stepOf_67 : decode cX0_stepOf 67 = .ok (.aload_n 0, 1) := by decide +kernel
theorem dX0_stepOf_68 : decode cX0_stepOf 68 = .ok (.iload 4, 2) := by decide +kernel
theorem dX0_stepOf_70 : decode cX0_stepOf 70 = .ok (.invokevirtual 77, 3) := by decide +kernel
theorem dX0_stepOf_73 : decode cX0_stepOf 73 = .ok (.iconst 3, 1) := by decide +kernel
theorem dX0_stepOf_74 : decode cX0_stepOf 74 = .ok (.if_icmp .eq 19, 3) := by decide +kernel
theorem dX0_stepOf_77 : decode cX0_stepOf 77 = .ok (.iload 5, 2) := by decide +kernel
theorem dX0_stepOf_79 : decode cX0_stepOf 79 = .ok (.bipush (-2), 2) := by decide +kernel
theorem dX0_stepOf_81 : decode cX0_stepOf 81 = .ok (.if_icmp .gt 16, 3) := by decide +kernel
theorem dX0_stepOf_84 : decode cX0_stepOf 84 = .ok (.aload_n 0, 1) := by decide +kernel
theorem dX0_stepOf_85 : decode cX0_stepOf 85 = .ok (.iload_n 1, 1) := by decide +kernel
theorem dX0_stepOf_86 : decode cX0_stepOf 86 = .ok (.invokevirtual 117, 3) := by decide +kernel
theorem dX0_stepOf_89 : decode cX0_stepOf 89 = .ok (.iconst 5, 1) := by decide +kernel
theorem dX0_stepOf_90 : decode cX0_stepOf 90 = .ok (.if_icmp .ne 7, 3) := by decide +kernel
theorem dX0_stepOf_93 : decode cX0_stepOf 93 = .ok (.iconst 1, 1) := by decide +kernel
theorem dX0_stepOf_94 : decode cX0_stepOf 94 = .ok (.goto 4, 3) := by decide +kernel
theorem dX0_stepOf_97 : decode cX0_stepOf 97 = .ok (.iconst 0, 1) := by decide +kernel
theorem dX0_stepOf_98 : decode cX0_stepOf 98 = .ok (.istore 7, 2) := by decide +kernel
theorem dX0_stepOf_100 : decode cX0_stepOf 100 = .ok (.lconst 1, 1) := by decide +kernel
theorem dX0_stepOf_101 : decode cX0_stepOf 101 = .ok (.iload 7, 2) := by decide +kernel
theorem dX0_stepOf_103 : decode cX0_stepOf 103 = .ok (.ifCond .eq 11, 3) := by decide +kernel
theorem dX0_stepOf_106 : decode cX0_stepOf 106 = .ok (.iload 4, 2) := by decide +kernel
theorem dX0_stepOf_108 : decode cX0_stepOf 108 = .ok (.bipush 32, 2) := by decide +kernel
theorem dX0_stepOf_110 : decode cX0_stepOf 110 = .ok (.iadd, 1) := by decide +kernel
theorem dX0_stepOf_111 : decode cX0_stepOf 111 = .ok (.goto 5, 3) := by decide +kernel
theorem dX0_stepOf_114 : decode cX0_stepOf 114 = .ok (.iload 4, 2) := by decide +kernel
theorem dX0_stepOf_116 : decode cX0_stepOf 116 = .ok (.lshl, 1) := by decide +kernel
theorem dX0_stepOf_117 : decode cX0_stepOf 117 = .ok (.lreturn, 1) := by decide +kernel
set_option maxRecDepth 20000 in
theorem ggX0_canEnter_X0_holderOf : GoodIn wsX0_canEnter wsX0_holderOf := goodIn_r _ [5, 6, 23, 24, 25, 26, 27, 28, 29, 30, 31, 32, 33, 34, 35] (by decide +kernel) (by decide +kernel)
set_option maxRecDepth 20000 in
theorem gX0_canEnter_X0_holderOf : GoodIn wsX0_canEnter (wsV RX0 132 RX0 yX0_holderOf wsX0_holderOf) := goodIn_app (goodIn_of _ (by decide +kernel)) ggX0_canEnter_X0_holderOf
set_option maxRecDepth 20000 in
theorem ggX0_canEnter_X0_isOpen : GoodIn wsX0_canEnter wsX0_isOpen := goodIn_r _ [10, 6, 11, 23, 24, 25, 26, 27, 28, 29, 30, 31, 32, 33, 34, 35] (by decide +kernel) (by decide +kernel)
set_option maxRecDepth 20000 in
theorem gX0_canEnter_X0_isOpen : GoodIn wsX0_canEnter (wsV RX0 151 RX0 yX0_isOpen wsX0_isOpen) := goodIn_app (goodIn_of _ (by decide +kernel)) ggX0_canEnter_X0_isOpen
set_option maxRecDepth 20000 in
theorem ggX0_canEnter_X0_powerOf : GoodIn wsX0_canEnter wsX0_powerOf := goodIn_r _ [15, 16, 17, 23, 24, 25, 26, 27, 28, 29, 30, 31, 32, 33, 34, 35] (by decide +kernel) (by decide +kernel)
set_option maxRecDepth 20000 in
theorem gX0_canEnter_X0_powerOf : GoodIn wsX0_canEnter (wsV RX0 117 RX0 yX0_powerOf wsX0_powerOf) := goodIn_app (goodIn_of _ (by decide +kernel)) ggX0_canEnter_X0_powerOf
set_option maxRecDepth 20000 in
theorem ggX0_canEnter_X0_neighbourOf : GoodIn wsX0_canEnter wsX0_neighbourOf := goodIn_r _ [21, 22, 23, 24, 25, 26, 27, 28, 29, 30, 31, 32, 33, 34, 35] (by decide +kernel) (by decide +kernel)
set_option maxRecDepth 20000 in
theorem gX0_canEnter_X0_neighbourOf : GoodIn wsX0_canEnter (wsV RX0 141 RX0 yX0_neighbourOf wsX0_neighbourOf) := goodIn_app (goodIn_of _ (by decide +kernel)) ggX0_canEnter_X0_neighbourOf
theorem dX0_canEnter_0 : decode cX0_canEnter 0 = .ok (.aload_n 0, 1) := by decide +kernel
theorem dX0_canEnter_1 : decode cX0_canEnter 1 = .ok (.iload_n 2, 1) := by decide +kernel
theorem dX0_canEnter_2 : decode cX0_canEnter 2 = .ok (.invokevirtual 132, 3) := by decide +kernel
theorem dX0_canEnter_5 : decode cX0_canEnter 5 = .ok (.istore 4, 2) := by decide +kernel
theorem dX0_canEnter_7 : decode cX0_canEnter 7 = .ok (.iload 4, 2) := by decide +kernel
theorem dX0_canEnter_9 : decode cX0_canEnter 9 = .ok (.iconst (-1), 1) := by decide +kernel
theorem dX0_canEnter_10 : decode cX0_canEnter 10 = .ok (.if_icmp .ne 9, 3) := by decide +kernel
theorem dX0_canEnter_13 : decode cX0_canEnter 13 = .ok (.aload_n 0, 1) := by decide +kernel
theorem dX0_canEnter_14 : decode cX0_canEnter 14 = .ok (.iload_n 2, 1) := by decide +kernel
theorem dX0_canEnter_15 : decode cX0_canEnter 15 = .ok (.invokevirtual 151, 3) := by decide +kernel
theorem dX0_canEnter_18 : decode cX0_canEnter 18 = .ok (.ireturn, 1) := by decide +kernel
theorem dX0_canEnter_19 : decode cX0_canEnter 19 = .ok (.iload 4, 2) := by decide +kernel
theorem dX0_canEnter_21 : decode cX0_canEnter 21 = .ok (.bipush 10, 2) := by decide +kernel
theorem dX0_canEnter_23 : decode cX0_canEnter 23 = .ok (.idiv, 1) := by decide +kernel
theorem dX0_canEnter_24 : decode cX0_canEnter 24 = .ok (.iload_n 1, 1) := by decide +kernel
theorem dX0_canEnter_25 : decode cX0_canEnter 25 = .ok (.if_icmp .ne 5, 3) := by decide +kernel
theorem dX0_canEnter_28 : decode cX0_canEnter 28 = .ok (.iconst 0, 1) := by decide +kernel
theorem dX0_canEnter_29 : decode cX0_canEnter 29 = .ok (.ireturn, 1) := by decide +kernel
theorem dX0_canEnter_30 : decode cX0_canEnter 30 = .ok (.aload_n 0, 1) := by decide +kernel
theorem dX0_canEnter_31 : decode cX0_canEnter 31 = .ok (.iload_n 1, 1) := by decide +kernel
theorem dX0_canEnter_32 : decode cX0_canEnter 32 = .ok (.invokevirtual 117, 3) := by decide +kernel
theorem dX0_canEnter_35 : decode cX0_canEnter 35 = .ok (.iconst 2, 1) := by decide +kernel
theorem dX0_canEnter_36 : decode cX0_canEnter 36 = .ok (.if_icmp .eq 25, 3) := by decide +kernel
theorem dX0_canEnter_39 : decode cX0_canEnter 39 = .ok (.aload_n 0, 1) := by decide +kernel
theorem dX0_canEnter_40 : decode cX0_canEnter 40 = .ok (.iload_n 1, 1) := by decide +kernel
theorem dX0_canEnter_41 : decode cX0_canEnter 41 = .ok (.invokevirtual 117, 3) := by decide +kernel
theorem dX0_canEnter_44 : decode cX0_canEnter 44 = .ok (.iconst 3, 1) := by decide +kernel
theorem dX0_canEnter_45 : decode cX0_canEnter 45 = .ok (.if_icmp .ne 20, 3) := by decide +kernel
theorem dX0_canEnter_48 : decode cX0_canEnter 48 = .ok (.aload_n 0, 1) := by decide +kernel
theorem dX0_canEnter_49 : decode cX0_canEnter 49 = .ok (.aload_n 0, 1) := by decide +kernel
theorem dX0_canEnter_50 : decode cX0_canEnter 50 = .ok (.iload_n 2, 1) := by decide +kernel
theorem dX0_canEnter_51 : decode cX0_canEnter 51 = .ok (.iload_n 3, 1) := by decide +kernel
theorem dX0_canEnter_52 : decode cX0_canEnter 52 = .ok (.invokevirtual 141, 3) := by decide +kernel
theorem dX0_canEnter_55 : decode cX0_canEnter 55 = .ok (.invokevirtual 151, 3) := by decide +kernel
theorem dX0_canEnter_58 : decode cX0_canEnter 58 = .ok (.ifCond .eq 7, 3) := by decide +kernel
theorem dX0_canEnter_61 : decode cX0_canEnter 61 = .ok (.iconst 1, 1) := by decide +kernel
theorem dX0_canEnter_62 : decode cX0_canEnter 62 = .ok (.goto 4, 3) := by decide +kernel
theorem dX0_canEnter_65 : decode cX0_canEnter 65 = .ok (.iconst 0, 1) := by decide +kernel
theorem dX0_canEnter_66 : decode cX0_canEnter 66 = .ok (.ireturn, 1) := by decide +kernel
set_option maxRecDepth 20000 in
theorem ggX0_canBuild_X0_asideOf : GoodIn wsX0_canBuild wsX0_asideOf := goodIn_r _ [5, 6, 7, 8, 4, 9, 10, 11, 12, 13, 14, 15, 16, 31, 32, 33, 34, 35, 36, 37, 38, 39, 40, 41, 42, 43] (by decide +kernel) (by decide +kernel)
set_option maxRecDepth 20000 in
theorem gX0_canBuild_X0_asideOf : GoodIn wsX0_canBuild (wsV RX0 109 RX0 yX0_asideOf wsX0_asideOf) := goodIn_app (goodIn_of _ (by decide +kernel)) ggX0_canBuild_X0_asideOf
set_option maxRecDepth 20000 in
theorem ggX0_canBuild_X0_neighbourOf : GoodIn wsX0_canBuild wsX0_neighbourOf := goodIn_r _ [20, 21, 31, 32, 33, 34, 35, 36, 37, 38, 39, 40, 41, 42, 43] (by decide +kernel) (by decide +kernel)
set_option maxRecDepth 20000 in
theorem gX0_canBuild_X0_neighbourOf : GoodIn wsX0_canBuild (wsV RX0 141 RX0 yX0_neighbourOf wsX0_neighbourOf) := goodIn_app (goodIn_of _ (by decide +kernel)) ggX0_canBuild_X0_neighbourOf
set_option maxRecDepth 20000 in
theorem ggX0_canBuild_X0_isOpenBehind : GoodIn wsX0_canBuild wsX0_isOpenBehind := goodIn_r _ [25, 26, 27, 28, 4, 29, 10, 30, 31, 32, 33, 34, 35, 36, 37, 38, 39, 40, 41, 42, 43] (by decide +kernel) (by decide +kernel)
set_option maxRecDepth 20000 in
theorem gX0_canBuild_X0_isOpenBehind : GoodIn wsX0_canBuild (wsV RX0 154 RX0 yX0_isOpenBehind wsX0_isOpenBehind) := goodIn_app (goodIn_of _ (by decide +kernel)) ggX0_canBuild_X0_isOpenBehind
theorem dX0_canBuild_0 : decode cX0_canBuild 0 = .ok (.aload_n 0, 1) := by decide +kernel
theorem dX0_canBuild_1 : decode cX0_canBuild 1 = .ok (.iload_n 1, 1) := by decide +kernel
theorem dX0_canBuild_2 : decode cX0_canBuild 2 = .ok (.iload_n 2, 1) := by decide +kernel
theorem dX0_canBuild_3 : decode cX0_canBuild 3 = .ok (.iload_n 3, 1) := by decide +kernel
theorem dX0_canBuild_4 : decode cX0_canBuild 4 = .ok (.invokevirtual 109, 3) := by decide +kernel
theorem dX0_canBuild_7 : decode cX0_canBuild 7 = .ok (.istore 4, 2) := by decide +kernel
theorem dX0_canBuild_9 : decode cX0_canBuild 9 = .ok (.iconst 0, 1) := by decide +kernel
theorem dX0_canBuild_10 : decode cX0_canBuild 10 = .ok (.istore 5, 2) := by decide +kernel
theorem dX0_canBuild_12 : decode cX0_canBuild 12 = .ok (.iload 5, 2) := by decide +kernel
theorem dX0_canBuild_14 : decode cX0_canBuild 14 = .ok (.bipush 8, 2) := by decide +kernel
theorem dX0_canBuild_16 : decode cX0_canBuild 16 = .ok (.if_icmp .ge 28, 3) := by decide +kernel
theorem dX0_canBuild_19 : decode cX0_canBuild 19 = .ok (.aload_n 0, 1) := by decide +kernel
theorem dX0_canBuild_20 : decode cX0_canBuild 20 = .ok (.iload_n 2, 1) := by decide +kernel
theorem dX0_canBuild_21 : decode cX0_canBuild 21 = .ok (.iload 4, 2) := by decide +kernel
theorem dX0_canBuild_23 : decode cX0_canBuild 23 = .ok (.aload_n 0, 1) := by decide +kernel
theorem dX0_canBuild_24 : decode cX0_canBuild 24 = .ok (.iload_n 3, 1) := by decide +kernel
theorem dX0_canBuild_25 : decode cX0_canBuild 25 = .ok (.iload 5, 2) := by decide +kernel
theorem dX0_canBuild_27 : decode cX0_canBuild 27 = .ok (.invokevirtual 141, 3) := by decide +kernel
theorem dX0_canBuild_30 : decode cX0_canBuild 30 = .ok (.invokevirtual 154, 3) := by decide +kernel
theorem dX0_canBuild_33 : decode cX0_canBuild 33 = .ok (.ifCond .eq 5, 3) := by decide +kernel
theorem dX0_canBuild_36 : decode cX0_canBuild 36 = .ok (.iconst 1, 1) := by decide +kernel
theorem dX0_canBuild_37 : decode cX0_canBuild 37 = .ok (.ireturn, 1) := by decide +kernel
theorem dX0_canBuild_38 : decode cX0_canBuild 38 = .ok (.iinc 5 1, 3) := by decide +kernel
theorem dX0_canBuild_41 : decode cX0_canBuild 41 = .ok (.goto (-29), 3) := by decide +kernel
theorem dX0_canBuild_44 : decode cX0_canBuild 44 = .ok (.iconst 0, 1) := by decide +kernel
theorem dX0_canBuild_45 : decode cX0_canBuild 45 = .ok (.ireturn, 1) := by decide +kernel
set_option maxRecDepth 20000 in
theorem ggX0_listBuildings_X0_asideOf : GoodIn wsX0_listBuildings wsX0_asideOf := goodIn_r _ [6, 7, 8, 9, 5, 10, 11, 12, 13, 14, 15, 16, 17, 43, 44, 45, 46, 47, 48, 49, 50, 51, 52, 53, 54, 55] (by decide +kernel) (by decide +kernel)
set_option maxRecDepth 20000 in
theorem gX0_listBuildings_X0_asideOf : GoodIn wsX0_listBuildings (wsV RX0 109 RX0 yX0_asideOf wsX0_asideOf) := goodIn_app (goodIn_of _ (by decide +kernel)) ggX0_listBuildings_X0_asideOf
set_option maxRecDepth 20000 in
theorem ggX0_listBuildings_X0_neighbourOf : GoodIn wsX0_listBuildings wsX0_neighbourOf := goodIn_r _ [21, 22, 43, 44, 45, 46, 47, 48, 49, 50, 51, 52, 53, 54, 55] (by decide +kernel) (by decide +kernel)
set_option maxRecDepth 20000 in
theorem gX0_listBuildings_X0_neighbourOf : GoodIn wsX0_listBuildings (wsV RX0 141 RX0 yX0_neighbourOf wsX0_neighbourOf) := goodIn_app (goodIn_of _ (by decide +kernel)) ggX0_listBuildings_X0_neighbourOf
set_option maxRecDepth 20000 in
theorem ggX0_listBuildings_X0_isOpenBehind : GoodIn wsX0_listBuildings wsX0_isOpenBehind := goodIn_r _ [26, 27, 28, 29, 5, 30, 11, 31, 43, 44, 45, 46, 47, 48, 49, 50, 51, 52, 53, 54, 55] (by decide +kernel) (by decide +kernel)
set_option maxRecDepth 20000 in
theorem gX0_listBuildings_X0_isOpenBehind : GoodIn wsX0_listBuildings (wsV RX0 154 RX0 yX0_isOpenBehind wsX0_isOpenBehind) := goodIn_app (goodIn_of _ (by decide +kernel)) ggX0_listBuildings_X0_isOpenBehind
set_option maxRecDepth 20000 in
theorem ggX0_listBuildings_X2_add : GoodIn wsX0_listBuildings wsX2_add := goodIn_r _ [36, 37, 38, 56, 57] (by decide +kernel) (by decide +kernel)
set_option maxRecDepth 20000 in
theorem gX0_listBuildings_X2_add : GoodIn wsX0_listBuildings (wsV RX0 102 RX2 yX2_add wsX2_add) := goodIn_app (goodIn_of _ (by decide +kernel)) ggX0_listBuildings_X2_add
set_option maxRecDepth 20000 in
theorem ggX0_listBuildings_X0_powerOf : GoodIn wsX0_listBuildings wsX0_powerOf := goodIn_r _ [15, 16, 17, 43, 44, 45, 46, 47, 48, 49, 50, 51, 52, 53, 54, 55] (by decide +kernel) (by decide +kernel)
set_option maxRecDepth 20000 in
theorem gX0_listBuildings_X0_powerOf : GoodIn wsX0_listBuildings (wsV RX0 117 RX0 yX0_powerOf wsX0_powerOf) := goodIn_app (goodIn_of _ (by decide +kernel)) ggX0_listBuildings_X0_powerOf
set_option maxRecDepth 20000 in
theorem ggX0_listBuildings_X0_storeysOf : GoodIn wsX0_listBuildings wsX0_storeysOf := goodIn_r _ [42, 31, 43, 44, 45, 46, 47, 48, 49, 50, 51, 52, 53, 54, 55] (by decide +kernel) (by decide +kernel)
set_option maxRecDepth 20000 in
theorem gX0_listBuildings_X0_storeysOf : GoodIn wsX0_listBuildings (wsV RX0 77 RX0 yX0_storeysOf wsX0_storeysOf) := goodIn_app (goodIn_of _ (by decide +kernel)) ggX0_listBuildings_X0_storeysOf
theorem dX0_listBuildings_0 : decode cX0_listBuildings 0 = .ok (.aload_n 0, 1) := by decide +kernel
theorem dX0_listBuildings_1 : decode cX0_listBuildings 1 = .ok (.getfield 43, 3) := by decide +kernel
theorem dX0_listBuildings_4 : decode cX0_listBuildings 4 = .ok (.iconst 2, 1) := by decide +kernel
theorem dX0_listBuildings_5 : decode cX0_listBuildings 5 = .ok (.irem, 1) := by decide +kernel
theorem dX0_listBuildings_6 : decode cX0_listBuildings 6 = .ok (.istore 5, 2) := by decide +kernel
theorem dX0_listBuildings_8 : decode cX0_listBuildings 8 = .ok (.aload_n 0, 1) := by decide +kernel
theorem dX0_listBuildings_9 : decode cX0_listBuildings 9 = .ok (.iload 5, 2) := by decide +kernel
theorem dX0_listBuildings_11 : decode cX0_listBuildings 11 = .ok (.iload_n 3, 1) := by decide +kernel
theorem dX0_listBuildings_12 : decode cX0_listBuildings 12 = .ok (.iload 4, 2) := by decide +kernel
theorem dX0_listBuildings_14 : decode cX0_listBuildings 14 = .ok (.invokevirtual 109, 3) := by decide +kernel
theorem dX0_listBuildings_17 : decode cX0_listBuildings 17 = .ok (.istore 6, 2) := by decide +kernel
theorem dX0_listBuildings_19 : decode cX0_listBuildings 19 = .ok (.iconst 0, 1) := by decide +kernel
theorem dX0_listBuildings_20 : decode cX0_listBuildings 20 = .ok (.istore 7, 2) := by decide +kernel
theorem dX0_listBuildings_22 : decode cX0_listBuildings 22 = .ok (.iload 7, 2) := by decide +kernel
theorem dX0_listBuildings_24 : decode cX0_listBuildings 24 = .ok (.bipush 8, 2) := by decide +kernel
theorem dX0_listBuildings_26 : decode cX0_listBuildings 26 = .ok (.if_icmp .ge 39, 3) := by decide +kernel
theorem dX0_listBuildings_29 : decode cX0_listBuildings 29 = .ok (.aload_n 0, 1) := by decide +kernel
theorem dX0_listBuildings_30 : decode cX0_listBuildings 30 = .ok (.iload 4, 2) := by decide +kernel
theorem dX0_listBuildings_32 : decode cX0_listBuildings 32 = .ok (.iload 7, 2) := by decide +kernel
theorem dX0_listBuildings_34 : decode cX0_listBuildings 34 = .ok (.invokevirtual 141, 3) := by decide +kernel
theorem dX0_listBuildings_37 : decode cX0_listBuildings 37 = .ok (.istore 8, 2) := by decide +kernel
theorem dX0_listBuildings_39 : decode cX0_listBuildings 39 = .ok (.aload_n 0, 1) := by decide +kernel
theorem dX0_listBuildings_40 : decode cX0_listBuildings 40 = .ok (.iload_n 3, 1) := by decide +kernel
theorem dX0_listBuildings_41 : decode cX0_listBuildings 41 = .ok (.iload 6, 2) := by decide +kernel
theorem dX0_listBuildings_43 : decode cX0_listBuildings 43 = .ok (.iload 8, 2) := by decide +kernel
theorem dX0_listBuildings_45 : decode cX0_listBuildings 45 = .ok (.invokevirtual 154, 3) := by decide +kernel
theorem dX0_listBuildings_48 : decode cX0_listBuildings 48 = .ok (.ifCond .eq 11, 3) := by decide +kernel
theorem dX0_listBuildings_51 : decode cX0_listBuildings 51 = .ok (.aload_n 1, 1) := by decide +kernel
theorem dX0_listBuildings_52 : decode cX0_listBuildings 52 = .ok (.iload_n 2, 1) := by decide +kernel
theorem dX0_listBuildings_53 : decode cX0_listBuildings 53 = .ok (.iload 8, 2) := by decide +kernel
theorem dX0_listBuildings_55 : decode cX0_listBuildings 55 = .ok (.iadd, 1) := by decide +kernel
theorem dX0_listBuildings_56 : decode cX0_listBuildings 56 = .ok (.invokevirtual 102, 3) := by decide +kernel
theorem dX0_listBuildings_59 : decode cX0_listBuildings 59 = .ok (.iinc 7 1, 3) := by decide +kernel
theorem dX0_listBuildings_62 : decode cX0_listBuildings 62 = .ok (.goto (-40), 3) := by decide +kernel
theorem dX0_listBuildings_65 : decode cX0_listBuildings 65 = .ok (.aload_n 0, 1) := by decide +kernel
theorem dX0_listBuildings_66 : decode cX0_listBuildings 66 = .ok (.iload 5, 2) := by decide +kernel
theorem dX0_listBuildings_68 : decode cX0_listBuildings 68 = .ok (.invokevirtual 117, 3) := by decide +kernel
theorem dX0_listBuildings_71 : decode cX0_listBuildings 71 = .ok (.bipush 6, 2) := by decide +kernel
theorem dX0_listBuildings_73 : decode cX0_listBuildings 73 = .ok (.if_icmp .eq 4, 3) := by decide +kernel
theorem dX0_listBuildings_76 : decode cX0_listBuildings 76 = .ok (.return_, 1) := by decide +kernel
theorem dX0_listBuildings_77 : decode cX0_listBuildings 77 = .ok (.iconst 0, 1) := by decide +kernel
theorem dX0_listBuildings_78 : decode cX0_listBuildings 78 = .ok (.istore 7, 2) := by decide +kernel
theorem dX0_listBuildings_80 : decode cX0_listBuildings 80 = .ok (.iload 7, 2) := by decide +kernel
theorem dX0_listBuildings_82 : decode cX0_listBuildings 82 = .ok (.bipush 8, 2) := by decide +kernel
theorem dX0_listBuildings_84 : decode cX0_listBuildings 84 = .ok (.if_icmp .ge 52, 3) := by decide +kernel
theorem dX0_listBuildings_87 : decode cX0_listBuildings 87 = .ok (.aload_n 0, 1) := by decide +kernel
theorem dX0_listBuildings_88 : decode cX0_listBuildings 88 = .ok (.iload 4, 2) := by decide +kernel
theorem dX0_listBuildings_90 : decode cX0_listBuildings 90 = .ok (.iload 7, 2) := by decide +kernel
theorem dX0_listBuildings_92 : decode cX0_listBuildings 92 = .ok (.invokevirtual 141, 3) := by decide +kernel
theorem dX0_listBuildings_95 : decode cX0_listBuildings 95 = .ok (.istore 8, 2) := by decide +kernel
theorem dX0_listBuildings_97 : decode cX0_listBuildings 97 = .ok (.aload_n 0, 1) := by decide +kernel
theorem dX0_listBuildings_98 : decode cX0_listBuildings 98 = .ok (.iload_n 3, 1) := by decide +kernel
theorem dX0_listBuildings_99 : decode cX0_listBuildings 99 = .ok (.iload 6, 2) := by decide +kernel
theorem dX0_listBuildings_101 : decode cX0_listBuildings 101 = .ok (.iload 8, 2) := by decide +kernel
theorem dX0_listBuildings_103 : decode cX0_listBuildings 103 = .ok (.invokevirtual 154, 3) := by decide +kernel
theorem dX0_listBuildings_106 : decode cX0_listBuildings 106 = .ok (.ifCond .eq 24, 3) := by decide +kernel
theorem dX0_listBuildings_109 : decode cX0_listBuildings 109 = .ok (.aload_n 0, 1) := by decide +kernel
theorem dX0_listBuildings_110 : decode cX0_listBuildings 110 = .ok (.iload 8, 2) := by decide +kernel
theorem dX0_listBuildings_112 : decode cX0_listBuildings 112 = .ok (.invokevirtual 77, 3) := by decide +kernel
theorem dX0_listBuildings_115 : decode cX0_listBuildings 115 = .ok (.iconst 3, 1) := by decide +kernel
theorem dX0_listBuildings_116 : decode cX0_listBuildings 116 = .ok (.if_icmp .ge 14, 3) := by decide +kernel
theorem dX0_listBuildings_119 : decode cX0_listBuildings 119 = .ok (.aload_n 1, 1) := by decide +kernel
theorem dX0_listBuildings_120 : decode cX0_listBuildings 120 = .ok (.iload_n 2, 1) := by decide +kernel
theorem dX0_listBuildings_121 : decode cX0_listBuildings 121 = .ok (.bipush 50, 2) := by decide +kernel
theorem dX0_listBuildings_123 : decode cX0_listBuildings 123 = .ok (.iadd, 1) := by decide +kernel
theorem dX0_listBuildings_124 : decode cX0_listBuildings 124 = .ok (.iload 8, 2) := by decide +kernel
theorem dX0_listBuildings_126 : decode cX0_listBuildings 126 = .ok (.iadd, 1) := by decide +kernel
theorem dX0_listBuildings_127 : decode cX0_listBuildings 127 = .ok (.invokevirtual 102, 3) := by decide +kernel
theorem dX0_listBuildings_130 : decode cX0_listBuildings 130 = .ok (.iinc 7 1, 3) := by decide +kernel
theorem dX0_listBuildings_133 : decode cX0_listBuildings 133 = .ok (.goto (-53), 3) := by decide +kernel
theorem dX0_listBuildings_136 : decode cX0_listBuildings 136 = .ok (.return_, 1) := by decide +kernel
set_option maxRecDepth 20000 in
theorem ggX0_isOpenBehind_X0_isOpen : GoodIn wsX0_isOpenBehind wsX0_isOpen := goodIn_r _ [5, 6, 7, 8, 9, 10, 11, 12, 13, 14, 15, 16, 17, 18, 19, 20] (by decide +kernel) (by decide +kernel)
set_option maxRecDepth 20000 in
theorem gX0_isOpenBehind_X0_isOpen : GoodIn wsX0_isOpenBehind (wsV RX0 151 RX0 yX0_isOpen wsX0_isOpen) := goodIn_app (goodIn_of _ (by decide +kernel)) ggX0_isOpenBehind_X0_isOpen
theorem dX0_isOpenBehind_0 : decode cX0_isOpenBehind 0 = .ok (.iload_n 3, 1) := by decide +kernel
theorem dX0_isOpenBehind_1 : decode cX0_isOpenBehind 1 = .ok (.iload_n 2, 1) := by decide +kernel
theorem dX0_isOpenBehind_2 : decode cX0_isOpenBehind 2 = .ok (.if_icmp .eq 20, 3) := by decide +kernel
theorem dX0_isOpenBehind_5 : decode cX0_isOpenBehind 5 = .ok (.iload_n 3, 1) := by decide +kernel
theorem dX0_isOpenBehind_6 : decode cX0_isOpenBehind 6 = .ok (.iload_n 1, 1) := by decide +kernel
theorem dX0_isOpenBehind_7 : decode cX0_isOpenBehind 7 = .ok (.if_icmp .eq 11, 3) := by decide +kernel
theorem dX0_isOpenBehind_10 : decode cX0_isOpenBehind 10 = .ok (.aload_n 0, 1) := by decide +kernel
theorem dX0_isOpenBehind_11 : decode cX0_isOpenBehind 11 = .ok (.iload_n 3, 1) := by decide +kernel
theorem dX0_isOpenBehind_12 : decode cX0_isOpenBehind 12 = .ok (.invokevirtual 151, 3) := by decide +kernel
theorem dX0_isOpenBehind_15 : decode cX0_isOpenBehind 15 = .ok (.ifCond .eq 7, 3) := by decide +kernel
theorem dX0_isOpenBehind_18 : decode cX0_isOpenBehind 18 = .ok (.iconst 1, 1) := by decide +kernel
theorem dX0_isOpenBehind_19 : decode cX0_isOpenBehind 19 = .ok (.goto 4, 3) := by decide +kernel
theorem dX0_isOpenBehind_22 : decode cX0_isOpenBehind 22 = .ok (.iconst 0, 1) := by decide +kernel
theorem dX0_isOpenBehind_23 : decode cX0_isOpenBehind 23 = .ok (.ireturn, 1) := by decide +kernel
