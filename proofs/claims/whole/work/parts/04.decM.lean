theorem dX7_init_0 : decode cX7_init 0 = .ok (.aload_n 0, 1) := by decide +kernel
theorem dX7_init_1 : decode cX7_init 1 = .ok (.invokespecial 1, 3) := by decide +kernel
theorem dX7_init_4 : decode cX7_init 4 = .ok (.aload_n 0, 1) := by decide +kernel
theorem dX7_init_5 : decode cX7_init 5 = .ok (.bipush 8, 2) := by decide +kernel
theorem dX7_init_7 : decode cX7_init 7 = .ok (.newarray .int, 2) := by decide +kernel
theorem dX7_init_9 : decode cX7_init 9 = .ok (.putfield 7, 3) := by decide +kernel
theorem dX7_init_12 : decode cX7_init 12 = .ok (.aload_n 0, 1) := by decide +kernel
theorem dX7_init_13 : decode cX7_init 13 = .ok (.bipush 8, 2) := by decide +kernel
theorem dX7_init_15 : decode cX7_init 15 = .ok (.newarray .int, 2) := by decide +kernel
theorem dX7_init_17 : decode cX7_init 17 = .ok (.putfield 13, 3) := by decide +kernel
theorem dX7_init_20 : decode cX7_init 20 = .ok (.aload_n 0, 1) := by decide +kernel
theorem dX7_init_21 : decode cX7_init 21 = .ok (.sipush 320, 3) := by decide +kernel
theorem dX7_init_24 : decode cX7_init 24 = .ok (.newarray .int, 2) := by decide +kernel
theorem dX7_init_26 : decode cX7_init 26 = .ok (.putfield 16, 3) := by decide +kernel
theorem dX7_init_29 : decode cX7_init 29 = .ok (.aload_n 0, 1) := by decide +kernel
theorem dX7_init_30 : decode cX7_init 30 = .ok (.bipush 57, 2) := by decide +kernel
theorem dX7_init_32 : decode cX7_init 32 = .ok (.newarray .int, 2) := by decide +kernel
theorem dX7_init_34 : decode cX7_init 34 = .ok (.putfield 19, 3) := by decide +kernel
theorem dX7_init_37 : decode cX7_init 37 = .ok (.aload_n 0, 1) := by decide +kernel
theorem dX7_init_38 : decode cX7_init 38 = .ok (.bipush 40, 2) := by decide +kernel
theorem dX7_init_40 : decode cX7_init 40 = .ok (.newarray .int, 2) := by decide +kernel
theorem dX7_init_42 : decode cX7_init 42 = .ok (.putfield 22, 3) := by decide +kernel
theorem dX7_init_45 : decode cX7_init 45 = .ok (.aload_n 0, 1) := by decide +kernel
theorem dX7_init_46 : decode cX7_init 46 = .ok (.bipush 120, 2) := by decide +kernel
theorem dX7_init_48 : decode cX7_init 48 = .ok (.newarray .int, 2) := by decide +kernel
theorem dX7_init_50 : decode cX7_init 50 = .ok (.putfield 25, 3) := by decide +kernel
theorem dX7_init_53 : decode cX7_init 53 = .ok (.aload_n 0, 1) := by decide +kernel
theorem dX7_init_54 : decode cX7_init 54 = .ok (.bipush 57, 2) := by decide +kernel
theorem dX7_init_56 : decode cX7_init 56 = .ok (.newarray .int, 2) := by decide +kernel
theorem dX7_init_58 : decode cX7_init 58 = .ok (.putfield 28, 3) := by decide +kernel
theorem dX7_init_61 : decode cX7_init 61 = .ok (.aload_n 0, 1) := by decide +kernel
theorem dX7_init_62 : decode cX7_init 62 = .ok (.sipush 1368, 3) := by decide +kernel
theorem dX7_init_65 : decode cX7_init 65 = .ok (.newarray .int, 2) := by decide +kernel
theorem dX7_init_67 : decode cX7_init 67 = .ok (.putfield 31, 3) := by decide +kernel
theorem dX7_init_70 : decode cX7_init 70 = .ok (.aload_n 0, 1) := by decide +kernel
theorem dX7_init_71 : decode cX7_init 71 = .ok (.bipush 57, 2) := by decide +kernel
theorem dX7_init_73 : decode cX7_init 73 = .ok (.newarray .int, 2) := by decide +kernel
theorem dX7_init_75 : decode cX7_init 75 = .ok (.putfield 34, 3) := by decide +kernel
theorem dX7_init_78 : decode cX7_init 78 = .ok (.aload_n 0, 1) := by decide +kernel
theorem dX7_init_79 : decode cX7_init 79 = .ok (.iconst 2, 1) := by decide +kernel
theorem dX7_init_80 : decode cX7_init 80 = .ok (.newarray .boolean, 2) := by decide +kernel
theorem dX7_init_82 : decode cX7_init 82 = .ok (.putfield 37, 3) := by decide +kernel
theorem dX7_init_85 : decode cX7_init 85 = .ok (.aload_n 0, 1) := by decide +kernel
theorem dX7_init_86 : decode cX7_init 86 = .ok (.bipush 114, 2) := by decide +kernel
theorem dX7_init_88 : decode cX7_init 88 = .ok (.newarray .int, 2) := by decide +kernel
theorem dX7_init_90 : decode cX7_init 90 = .ok (.putfield 41, 3) := by decide +kernel
theorem dX7_init_93 : decode cX7_init 93 = .ok (.aload_n 0, 1) := by decide +kernel
theorem dX7_init_94 : decode cX7_init 94 = .ok (.bipush 16, 2) := by decide +kernel
theorem dX7_init_96 : decode cX7_init 96 = .ok (.newarray .int, 2) := by decide +kernel
theorem dX7_init_98 : decode cX7_init 98 = .ok (.putfield 44, 3) := by decide +kernel
theorem dX7_init_101 : decode cX7_init 101 = .ok (.iconst 0, 1) := by decide +kernel
theorem dX7_init_102 : decode cX7_init 102 = .ok (.istore_n 1, 1) := by decide +kernel
theorem dX7_init_103 : decode cX7_init 103 = .ok (.iload_n 1, 1) := by decide +kernel
theorem dX7_init_104 : decode cX7_init 104 = .ok (.bipush 8, 2) := by decide +kernel
theorem dX7_init_106 : decode cX7_init 106 = .ok (.if_icmp .ge 16, 3) := by decide +kernel
theorem dX7_init_109 : decode cX7_init 109 = .ok (.aload_n 0, 1) := by decide +kernel
theorem dX7_init_110 : decode cX7_init 110 = .ok (.getfield 13, 3) := by decide +kernel
theorem dX7_init_113 : decode cX7_init 113 = .ok (.iload_n 1, 1) := by decide +kernel
theorem dX7_init_114 : decode cX7_init 114 = .ok (.iconst (-1), 1) := by decide +kernel
theorem dX7_init_115 : decode cX7_init 115 = .ok (.iastore, 1) := by decide +kernel
theorem dX7_init_116 : decode cX7_init 116 = .ok (.iinc 1 1, 3) := by decide +kernel
theorem dX7_init_119 : decode cX7_init 119 = .ok (.goto (-16), 3) := by decide +kernel
theorem dX7_init_122 : decode cX7_init 122 = .ok (.return_, 1) := by decide +kernel
theorem dX7_in_0 : decode cX7_in 0 = .ok (.lload_n 0, 1) := by decide +kernel
theorem dX7_in_1 : decode cX7_in 1 = .ok (.lload_n 2, 1) := by decide +kernel
theorem dX7_in_2 : decode cX7_in 2 = .ok (.lcmp, 1) := by decide +kernel
theorem dX7_in_3 : decode cX7_in 3 = .ok (.ifCond .lt 14, 3) := by decide +kernel
theorem dX7_in_6 : decode cX7_in 6 = .ok (.lload_n 0, 1) := by decide +kernel
theorem dX7_in_7 : decode cX7_in 7 = .ok (.lload 4, 2) := by decide +kernel
theorem dX7_in_9 : decode cX7_in 9 = .ok (.lcmp, 1) := by decide +kernel
theorem dX7_in_10 : decode cX7_in 10 = .ok (.ifCond .gt 7, 3) := by decide +kernel
theorem dX7_in_13 : decode cX7_in 13 = .ok (.iconst 1, 1) := by decide +kernel
theorem dX7_in_14 : decode cX7_in 14 = .ok (.goto 4, 3) := by decide +kernel
theorem dX7_in_17 : decode cX7_in 17 = .ok (.iconst 0, 1) := by decide +kernel
theorem dX7_in_18 : decode cX7_in 18 = .ok (.ireturn, 1) := by decide +kernel
theorem dX7_has_0 : decode cX7_has 0 = .ok (.iload_n 0, 1) := by decide +kernel
theorem dX7_has_1 : decode cX7_has 1 = .ok (.iload_n 1, 1) := by decide +kernel
theorem dX7_has_2 : decode cX7_has 2 = .ok (.ishr, 1) := by decide +kernel
theorem dX7_has_3 : decode cX7_has 3 = .ok (.iconst 1, 1) := by decide +kernel
theorem dX7_has_4 : decode cX7_has 4 = .ok (.iand, 1) := by decide +kernel
theorem dX7_has_5 : decode cX7_has 5 = .ok (.iconst 1, 1) := by decide +kernel
theorem dX7_has_6 : decode cX7_has 6 = .ok (.if_icmp .ne 7, 3) := by decide +kernel
theorem dX7_has_9 : decode cX7_has 9 = .ok (.iconst 1, 1) := by decide +kernel
theorem dX7_has_10 : decode cX7_has 10 = .ok (.goto 4, 3) := by decide +kernel
theorem dX7_has_13 : decode cX7_has 13 = .ok (.iconst 0, 1) := by decide +kernel
theorem dX7_has_14 : decode cX7_has 14 = .ok (.ireturn, 1) := by decide +kernel
theorem dX7_ones_0 : decode cX7_ones 0 = .ok (.iconst 0, 1) := by decide +kernel
theorem dX7_ones_1 : decode cX7_ones 1 = .ok (.istore_n 1, 1) := by decide +kernel
theorem dX7_ones_2 : decode cX7_ones 2 = .ok (.iload_n 0, 1) := by decide +kernel
theorem dX7_ones_3 : decode cX7_ones 3 = .ok (.istore_n 2, 1) := by decide +kernel
theorem dX7_ones_4 : decode cX7_ones 4 = .ok (.iload_n 2, 1) := by decide +kernel
theorem dX7_ones_5 : decode cX7_ones 5 = .ok (.ifCond .eq 15, 3) := by decide +kernel
theorem dX7_ones_8 : decode cX7_ones 8 = .ok (.iinc 1 1, 3) := by decide +kernel
theorem dX7_ones_11 : decode cX7_ones 11 = .ok (.iload_n 2, 1) := by decide +kernel
theorem dX7_ones_12 : decode cX7_ones 12 = .ok (.iload_n 2, 1) := by decide +kernel
theorem dX7_ones_13 : decode cX7_ones 13 = .ok (.iconst 1, 1) := by decide +kernel
theorem dX7_ones_14 : decode cX7_ones 14 = .ok (.isub, 1) := by decide +kernel
theorem dX7_ones_15 : decode cX7_ones 15 = .ok (.iand, 1) := by decide +kernel
theorem dX7_ones_16 : decode cX7_ones 16 = .ok (.istore_n 2, 1) := by decide +kernel
theorem dX7_ones_17 : decode cX7_ones 17 = .ok (.goto (-13), 3) := by decide +kernel
theorem dX7_ones_20 : decode cX7_ones 20 = .ok (.iload_n 1, 1) := by decide +kernel
theorem dX7_ones_21 : decode cX7_ones 21 = .ok (.ireturn, 1) := by decide +kernel
theorem dX7_find_0 : decode cX7_find 0 = .ok (.aload_n 0, 1) := by decide +kernel
theorem dX7_find_1 : decode cX7_find 1 = .ok (.iload_n 1, 1) := by decide +kernel
theorem dX7_find_2 : decode cX7_find 2 = .ok (.putfield 47, 3) := by decide +kernel
theorem dX7_find_5 : decode cX7_find 5 = .ok (.ldc 51, 2) := by decide +kernel
theorem dX7_find_7 : decode cX7_find 7 = .ok (.iload_n 1, 1) := by decide +kernel
theorem dX7_find_8 : decode cX7_find 8 = .ok (.isub, 1) := by decide +kernel
theorem dX7_find_9 : decode cX7_find 9 = .ok (.ireturn, 1) := by decide +kernel
theorem dX7_well_0 : decode cX7_well 0 = .ok (.aload_n 0, 1) := by decide +kernel
theorem dX7_well_1 : decode cX7_well 1 = .ok (.iconst 0, 1) := by decide +kernel
theorem dX7_well_2 : decode cX7_well 2 = .ok (.putfield 47, 3) := by decide +kernel
theorem dX7_well_5 : decode cX7_well 5 = .ok (.iload_n 1, 1) := by decide +kernel
theorem dX7_well_6 : decode cX7_well 6 = .ok (.ireturn, 1) := by decide +kernel
set_option maxRecDepth 20000 in
theorem ggX7_isRow_X7_in : GoodIn wsX7_isRow wsX7_in := goodIn_r _ [5] (by decide +kernel) (by decide +kernel)
set_option maxRecDepth 20000 in
theorem gX7_isRow_X7_in : GoodIn wsX7_isRow (va_wsS RX7 54 yX7_in wsX7_in) := goodIn_app (goodIn_of _ (by decide +kernel)) ggX7_isRow_X7_in
theorem dX7_isRow_0 : decode cX7_isRow 0 = .ok (.iload_n 0, 1) := by decide +kernel
theorem dX7_isRow_1 : decode cX7_isRow 1 = .ok (.i2l, 1) := by decide +kernel
theorem dX7_isRow_2 : decode cX7_isRow 2 = .ok (.lconst 0, 1) := by decide +kernel
theorem dX7_isRow_3 : decode cX7_isRow 3 = .ok (.ldc2_w 52, 3) := by decide +kernel
theorem dX7_isRow_6 : decode cX7_isRow 6 = .ok (.invokestatic 54, 3) := by decide +kernel
theorem dX7_isRow_9 : decode cX7_isRow 9 = .ok (.ireturn, 1) := by decide +kernel
set_option maxRecDepth 20000 in
theorem ggX7_row_X7_isRow : GoodIn wsX7_row wsX7_isRow := goodIn_r _ [9, 10, 11, 12, 8, 13] (by decide +kernel) (by decide +kernel)
set_option maxRecDepth 20000 in
theorem gX7_row_X7_isRow : GoodIn wsX7_row (va_wsS RX7 58 yX7_isRow wsX7_isRow) := goodIn_app (goodIn_of _ (by decide +kernel)) ggX7_row_X7_isRow
set_option maxRecDepth 20000 in
theorem ggX7_row_X7_in : GoodIn wsX7_row wsX7_in := goodIn_r _ [13] (by decide +kernel) (by decide +kernel)
set_option maxRecDepth 20000 in
theorem gX7_row_X7_in : GoodIn wsX7_row (va_wsS RX7 54 yX7_in wsX7_in) := goodIn_app (goodIn_of _ (by decide +kernel)) ggX7_row_X7_in
set_option maxRecDepth 20000 in
theorem ggX7_row_X7_find : GoodIn wsX7_row wsX7_find := goodIn_r _ [17, 18, 19, 24, 25, 26, 27, 28, 29, 30, 31, 32, 33, 34, 35, 36, 37, 38, 39, 40, 41, 42, 43, 44, 45, 46, 47] (by decide +kernel) (by decide +kernel)
set_option maxRecDepth 20000 in
theorem gX7_row_X7_find : GoodIn wsX7_row (wsV RX7 65 RX7 yX7_find wsX7_find) := goodIn_app (goodIn_of _ (by decide +kernel)) ggX7_row_X7_find
set_option maxRecDepth 20000 in
theorem ggX7_row_X7_well : GoodIn wsX7_row wsX7_well := goodIn_r _ [23, 18, 24, 25, 26, 27, 28, 29, 30, 31, 32, 33, 34, 35, 36, 37, 38, 39, 40, 41, 42, 43, 44, 45, 46, 47] (by decide +kernel) (by decide +kernel)
set_option maxRecDepth 20000 in
theorem gX7_row_X7_well : GoodIn wsX7_row (wsV RX7 69 RX7 yX7_well wsX7_well) := goodIn_app (goodIn_of _ (by decide +kernel)) ggX7_row_X7_well
theorem dX7_row_0 : decode cX7_row 0 = .ok (.iload_n 1, 1) := by decide +kernel
theorem dX7_row_1 : decode cX7_row 1 = .ok (.invokestatic 58, 3) := by decide +kernel
theorem dX7_row_4 : decode cX7_row 4 = .ok (.ifCond .eq 21, 3) := by decide +kernel
theorem dX7_row_7 : decode cX7_row 7 = .ok (.iload_n 2, 1) := by decide +kernel
theorem dX7_row_8 : decode cX7_row 8 = .ok (.i2l, 1) := by decide +kernel
theorem dX7_row_9 : decode cX7_row 9 = .ok (.lconst 0, 1) := by decide +kernel
theorem dX7_row_10 : decode cX7_row 10 = .ok (.ldc2_w 62, 3) := by decide +kernel
theorem dX7_row_13 : decode cX7_row 13 = .ok (.invokestatic 54, 3) := by decide +kernel
theorem dX7_row_16 : decode cX7_row 16 = .ok (.ifCond .eq 9, 3) := by decide +kernel
theorem dX7_row_19 : decode cX7_row 19 = .ok (.iload_n 3, 1) := by decide +kernel
theorem dX7_row_20 : decode cX7_row 20 = .ok (.bipush 40, 2) := by decide +kernel
theorem dX7_row_22 : decode cX7_row 22 = .ok (.if_icmp .le 6, 3) := by decide +kernel
theorem dX7_row_25 : decode cX7_row 25 = .ok (.ldc 64, 2) := by decide +kernel
theorem dX7_row_27 : decode cX7_row 27 = .ok (.ireturn, 1) := by decide +kernel
theorem dX7_row_28 : decode cX7_row 28 = .ok (.iload_n 3, 1) := by decide +kernel
theorem dX7_row_29 : decode cX7_row 29 = .ok (.ifCond .ge 9, 3) := by decide +kernel
theorem dX7_row_32 : decode cX7_row 32 = .ok (.aload_n 0, 1) := by decide +kernel
theorem dX7_row_33 : decode cX7_row 33 = .ok (.iconst 4, 1) := by decide +kernel
theorem dX7_row_34 : decode cX7_row 34 = .ok (.invokevirtual 65, 3) := by decide +kernel
theorem dX7_row_37 : decode cX7_row 37 = .ok (.ireturn, 1) := by decide +kernel
theorem dX7_row_38 : decode cX7_row 38 = .ok (.aload_n 0, 1) := by decide +kernel
theorem dX7_row_39 : decode cX7_row 39 = .ok (.getfield 7, 3) := by decide +kernel
theorem dX7_row_42 : decode cX7_row 42 = .ok (.iload_n 1, 1) := by decide +kernel
theorem dX7_row_43 : decode cX7_row 43 = .ok (.iload_n 2, 1) := by decide +kernel
theorem dX7_row_44 : decode cX7_row 44 = .ok (.iastore, 1) := by decide +kernel
theorem dX7_row_45 : decode cX7_row 45 = .ok (.aload_n 0, 1) := by decide +kernel
theorem dX7_row_46 : decode cX7_row 46 = .ok (.getfield 13, 3) := by decide +kernel
theorem dX7_row_49 : decode cX7_row 49 = .ok (.iload_n 1, 1) := by decide +kernel
theorem dX7_row_50 : decode cX7_row 50 = .ok (.iload_n 3, 1) := by decide +kernel
theorem dX7_row_51 : decode cX7_row 51 = .ok (.iastore, 1) := by decide +kernel
theorem dX7_row_52 : decode cX7_row 52 = .ok (.iconst 0, 1) := by decide +kernel
theorem dX7_row_53 : decode cX7_row 53 = .ok (.istore 4, 2) := by decide +kernel
theorem dX7_row_55 : decode cX7_row 55 = .ok (.iload 4, 2) := by decide +kernel
theorem dX7_row_57 : decode cX7_row 57 = .ok (.bipush 40, 2) := by decide +kernel
theorem dX7_row_59 : decode cX7_row 59 = .ok (.if_icmp .ge 22, 3) := by decide +kernel
theorem dX7_row_62 : decode cX7_row 62 = .ok (.aload_n 0, 1) := by decide +kernel
theorem dX7_row_63 : decode cX7_row 63 = .ok (.getfield 16, 3) := by decide +kernel
theorem dX7_row_66 : decode cX7_row 66 = .ok (.bipush 40, 2) := by decide +kernel
theorem dX7_row_68 : decode cX7_row 68 = .ok (.iload_n 1, 1) := by decide +kernel
theorem dX7_row_69 : decode cX7_row 69 = .ok (.imul, 1) := by decide +kernel
theorem dX7_row_70 : decode cX7_row 70 = .ok (.iload 4, 2) := by decide +kernel
theorem dX7_row_72 : decode cX7_row 72 = .ok (.iadd, 1) := by decide +kernel
theorem dX7_row_73 : decode cX7_row 73 = .ok (.iconst 0, 1) := by decide +kernel
theorem dX7_row_74 : decode cX7_row 74 = .ok (.iastore, 1) := by decide +kernel
theorem dX7_row_75 : decode cX7_row 75 = .ok (.iinc 4 1, 3) := by decide +kernel
theorem dX7_row_78 : decode cX7_row 78 = .ok (.goto (-23), 3) := by decide +kernel
theorem dX7_row_81 : decode cX7_row 81 = .ok (.aload_n 0, 1) := by decide +kernel
theorem dX7_row_82 : decode cX7_row 82 = .ok (.iload_n 3, 1) := by decide +kernel
theorem dX7_row_83 : decode cX7_row 83 = .ok (.invokevirtual 69, 3) := by decide +kernel
theorem dX7_row_86 : decode cX7_row 86 = .ok (.ireturn, 1) := by decide +kernel
theorem dX7_asLane_0 : decode cX7_asLane 0 = .ok (.iload_n 0, 1) := by decide +kernel
theorem dX7_asLane_1 : decode cX7_asLane 1 = .ok (.ifCond .ne 13, 3) := by decide +kernel
theorem dX7_asLane_4 : decode cX7_asLane 4 = .ok (.iload_n 1, 1) := by decide +kernel
theorem dX7_asLane_5 : decode cX7_asLane 5 = .ok (.bipush 24, 2) := by decide +kernel
theorem dX7_asLane_7 : decode cX7_asLane 7 = .ok (.ishl, 1) := by decide +kernel
theorem dX7_asLane_8 : decode cX7_asLane 8 = .ok (.bipush 24, 2) := by decide +kernel
theorem dX7_asLane_10 : decode cX7_asLane 10 = .ok (.ishr, 1) := by decide +kernel
theorem dX7_asLane_11 : decode cX7_asLane 11 = .ok (.goto 19, 3) := by decide +kernel
theorem dX7_asLane_14 : decode cX7_asLane 14 = .ok (.iload_n 0, 1) := by decide +kernel
theorem dX7_asLane_15 : decode cX7_asLane 15 = .ok (.iconst 1, 1) := by decide +kernel
theorem dX7_asLane_16 : decode cX7_asLane 16 = .ok (.if_icmp .ne 13, 3) := by decide +kernel
theorem dX7_asLane_19 : decode cX7_asLane 19 = .ok (.iload_n 1, 1) := by decide +kernel
theorem dX7_asLane_20 : decode cX7_asLane 20 = .ok (.bipush 16, 2) := by decide +kernel
theorem dX7_asLane_22 : decode cX7_asLane 22 = .ok (.ishl, 1) := by decide +kernel
theorem dX7_asLane_23 : decode cX7_asLane 23 = .ok (.bipush 16, 2) := by decide +kernel
theorem dX7_asLane_25 : decode cX7_asLane 25 = .ok (.ishr, 1) := by decide +kernel
theorem dX7_asLane_26 : decode cX7_asLane 26 = .ok (.goto 4, 3) := by decide +kernel
theorem dX7_asLane_29 : decode cX7_asLane 29 = .ok (.iload_n 1, 1) := by decide +kernel
theorem dX7_asLane_30 : decode cX7_asLane 30 = .ok (.ireturn, 1) := by decide +kernel
set_option maxRecDepth 20000 in
theorem ggX7_set_X7_isRow : GoodIn wsX7_set wsX7_isRow := goodIn_r _ [8, 9, 10, 11, 7, 12] (by decide +kernel) (by decide +kernel)
set_option maxRecDepth 20000 in
theorem gX7_set_X7_isRow : GoodIn wsX7_set (va_wsS RX7 58 yX7_isRow wsX7_isRow) := goodIn_app (goodIn_of _ (by decide +kernel)) ggX7_set_X7_isRow
set_option maxRecDepth 20000 in
theorem ggX7_set_X7_find : GoodIn wsX7_set wsX7_find := goodIn_r _ [16, 17, 18, 26, 27, 28, 29, 30, 31, 32, 33, 34, 35, 36, 37, 38, 39, 40, 41, 42, 43, 44, 45, 46, 47, 48, 49] (by decide +kernel) (by decide +kernel)
set_option maxRecDepth 20000 in
theorem gX7_set_X7_find : GoodIn wsX7_set (wsV RX7 65 RX7 yX7_find wsX7_find) := goodIn_app (goodIn_of _ (by decide +kernel)) ggX7_set_X7_find
set_option maxRecDepth 20000 in
theorem ggX7_set_X7_in : GoodIn wsX7_set wsX7_in := goodIn_r _ [12] (by decide +kernel) (by decide +kernel)
set_option maxRecDepth 20000 in
theorem gX7_set_X7_in : GoodIn wsX7_set (va_wsS RX7 54 yX7_in wsX7_in) := goodIn_app (goodIn_of _ (by decide +kernel)) ggX7_set_X7_in
set_option maxRecDepth 20000 in
theorem ggX7_set_X7_asLane : GoodIn wsX7_set wsX7_asLane := goodIn_r _ [21] (by decide +kernel) (by decide +kernel)
set_option maxRecDepth 20000 in
theorem gX7_set_X7_asLane : GoodIn wsX7_set (va_wsS RX7 72 yX7_asLane wsX7_asLane) := goodIn_app (goodIn_of _ (by decide +kernel)) ggX7_set_X7_asLane
set_option maxRecDepth 20000 in
theorem ggX7_set_X7_well : GoodIn wsX7_set wsX7_well := goodIn_r _ [25, 17, 26, 27, 28, 29, 30, 31, 32, 33, 34, 35, 36, 37, 38, 39, 40, 41, 42, 43, 44, 45, 46, 47, 48, 49] (by decide +kernel) (by decide +kernel)
set_option maxRecDepth 20000 in
theorem gX7_set_X7_well : GoodIn wsX7_set (wsV RX7 69 RX7 yX7_well wsX7_well) := goodIn_app (goodIn_of _ (by decide +kernel)) ggX7_set_X7_well
theorem dX7_set_0 : decode cX7_set 0 = .ok (.iload_n 1, 1) := by decide +kernel
theorem dX7_set_1 : decode cX7_set 1 = .ok (.invokestatic 58, 3) := by decide +kernel
theorem dX7_set_4 : decode cX7_set 4 = .ok (.ifCond .ne 6, 3) := by decide +kernel
theorem dX7_set_7 : decode cX7_set 7 = .ok (.ldc 64, 2) := by decide +kernel
theorem dX7_set_9 : decode cX7_set 9 = .ok (.ireturn, 1) := by decide +kernel
theorem dX7_set_10 : decode cX7_set 10 = .ok (.aload_n 0, 1) := by decide +kernel
theorem dX7_set_11 : decode cX7_set 11 = .ok (.getfield 13, 3) := by decide +kernel
theorem dX7_set_14 : decode cX7_set 14 = .ok (.iload_n 1, 1) := by decide +kernel
theorem dX7_set_15 : decode cX7_set 15 = .ok (.iaload, 1) := by decide +kernel
theorem dX7_set_16 : decode cX7_set 16 = .ok (.ifCond .ge 9, 3) := by decide +kernel
theorem dX7_set_19 : decode cX7_set 19 = .ok (.aload_n 0, 1) := by decide +kernel
theorem dX7_set_20 : decode cX7_set 20 = .ok (.iconst 1, 1) := by decide +kernel
theorem dX7_set_21 : decode cX7_set 21 = .ok (.invokevirtual 65, 3) := by decide +kernel
theorem dX7_set_24 : decode cX7_set 24 = .ok (.ireturn, 1) := by decide +kernel
theorem dX7_set_25 : decode cX7_set 25 = .ok (.iload_n 2, 1) := by decide +kernel
theorem dX7_set_26 : decode cX7_set 26 = .ok (.i2l, 1) := by decide +kernel
theorem dX7_set_27 : decode cX7_set 27 = .ok (.lconst 0, 1) := by decide +kernel
theorem dX7_set_28 : decode cX7_set 28 = .ok (.aload_n 0, 1) := by decide +kernel
theorem dX7_set_29 : decode cX7_set 29 = .ok (.getfield 13, 3) := by decide +kernel
theorem dX7_set_32 : decode cX7_set 32 = .ok (.iload_n 1, 1) := by decide +kernel
theorem dX7_set_33 : decode cX7_set 33 = .ok (.iaload, 1) := by decide +kernel
theorem dX7_set_34 : decode cX7_set 34 = .ok (.iconst 1, 1) := by decide +kernel
theorem dX7_set_35 : decode cX7_set 35 = .ok (.isub, 1) := by decide +kernel
theorem dX7_set_36 : decode cX7_set 36 = .ok (.i2l, 1) := by decide +kernel
theorem dX7_set_37 : decode cX7_set 37 = .ok (.invokestatic 54, 3) := by decide +kernel
theorem dX7_set_40 : decode cX7_set 40 = .ok (.ifCond .ne 9, 3) := by decide +kernel
theorem dX7_set_43 : decode cX7_set 43 = .ok (.aload_n 0, 1) := by decide +kernel
theorem dX7_set_44 : decode cX7_set 44 = .ok (.iconst 2, 1) := by decide +kernel
theorem dX7_set_45 : decode cX7_set 45 = .ok (.invokevirtual 65, 3) := by decide +kernel
theorem dX7_set_48 : decode cX7_set 48 = .ok (.ireturn, 1) := by decide +kernel
theorem dX7_set_49 : decode cX7_set 49 = .ok (.aload_n 0, 1) := by decide +kernel
theorem dX7_set_50 : decode cX7_set 50 = .ok (.getfield 16, 3) := by decide +kernel
theorem dX7_set_53 : decode cX7_set 53 = .ok (.bipush 40, 2) := by decide +kernel
theorem dX7_set_55 : decode cX7_set 55 = .ok (.iload_n 1, 1) := by decide +kernel
theorem dX7_set_56 : decode cX7_set 56 = .ok (.imul, 1) := by decide +kernel
theorem dX7_set_57 : decode cX7_set 57 = .ok (.iload_n 2, 1) := by decide +kernel
theorem dX7_set_58 : decode cX7_set 58 = .ok (.iadd, 1) := by decide +kernel
theorem dX7_set_59 : decode cX7_set 59 = .ok (.aload_n 0, 1) := by decide +kernel
theorem dX7_set_60 : decode cX7_set 60 = .ok (.getfield 7, 3) := by decide +kernel
theorem dX7_set_63 : decode cX7_set 63 = .ok (.iload_n 1, 1) := by decide +kernel
theorem dX7_set_64 : decode cX7_set 64 = .ok (.iaload, 1) := by decide +kernel
theorem dX7_set_65 : decode cX7_set 65 = .ok (.iload_n 3, 1) := by decide +kernel
theorem dX7_set_66 : decode cX7_set 66 = .ok (.invokestatic 72, 3) := by decide +kernel
theorem dX7_set_69 : decode cX7_set 69 = .ok (.iastore, 1) := by decide +kernel
theorem dX7_set_70 : decode cX7_set 70 = .ok (.aload_n 0, 1) := by decide +kernel
theorem dX7_set_71 : decode cX7_set 71 = .ok (.aload_n 0, 1) := by decide +kernel
theorem dX7_set_72 : decode cX7_set 72 = .ok (.getfield 16, 3) := by decide +kernel
theorem dX7_set_75 : decode cX7_set 75 = .ok (.bipush 40, 2) := by decide +kernel
theorem dX7_set_77 : decode cX7_set 77 = .ok (.iload_n 1, 1) := by decide +kernel
theorem dX7_set_78 : decode cX7_set 78 = .ok (.imul, 1) := by decide +kernel
theorem dX7_set_79 : decode cX7_set 79 = .ok (.iload_n 2, 1) := by decide +kernel
theorem dX7_set_80 : decode cX7_set 80 = .ok (.iadd, 1) := by decide +kernel
theorem dX7_set_81 : decode cX7_set 81 = .ok (.iaload, 1) := by decide +kernel
theorem dX7_set_82 : decode cX7_set 82 = .ok (.invokevirtual 69, 3) := by decide +kernel
theorem dX7_set_85 : decode cX7_set 85 = .ok (.ireturn, 1) := by decide +kernel
set_option maxRecDepth 20000 in
theorem ggX7_copy_X7_isRow : GoodIn wsX7_copy wsX7_isRow := goodIn_r _ [9, 10, 11, 12, 8, 13] (by decide +kernel) (by decide +kernel)
set_option maxRecDepth 20000 in
theorem gX7_copy_X7_isRow : GoodIn wsX7_copy (va_wsS RX7 58 yX7_isRow wsX7_isRow) := goodIn_app (goodIn_of _ (by decide +kernel)) ggX7_copy_X7_isRow
set_option maxRecDepth 20000 in
theorem ggX7_copy_X7_find : GoodIn wsX7_copy wsX7_find := goodIn_r _ [17, 18, 19, 24, 25, 26, 27, 28, 29, 30, 31, 32, 33, 34, 35, 36, 37, 38, 39, 40, 41, 42, 43, 44, 45, 46, 47] (by decide +kernel) (by decide +kernel)
set_option maxRecDepth 20000 in
theorem gX7_copy_X7_find : GoodIn wsX7_copy (wsV RX7 65 RX7 yX7_find wsX7_find) := goodIn_app (goodIn_of _ (by decide +kernel)) ggX7_copy_X7_find
set_option maxRecDepth 20000 in
theorem ggX7_copy_X7_in : GoodIn wsX7_copy wsX7_in := goodIn_r _ [13] (by decide +kernel) (by decide +kernel)
set_option maxRecDepth 20000 in
theorem gX7_copy_X7_in : GoodIn wsX7_copy (va_wsS RX7 54 yX7_in wsX7_in) := goodIn_app (goodIn_of _ (by decide +kernel)) ggX7_copy_X7_in
set_option maxRecDepth 20000 in
theorem ggX7_copy_X7_well : GoodIn wsX7_copy wsX7_well := goodIn_r _ [23, 18, 24, 25, 26, 27, 28, 29, 30, 31, 32, 33, 34, 35, 36, 37, 38, 39, 40, 41, 42, 43, 44, 45, 46, 47] (by decide +kernel) (by decide +kernel)
set_option maxRecDepth 20000 in
theorem gX7_copy_X7_well : GoodIn wsX7_copy (wsV RX7 69 RX7 yX7_well wsX7_well) := goodIn_app (goodIn_of _ (by decide +kernel)) ggX7_copy_X7_well
theorem dX7_copy_0 : decode cX7_copy 0 = .ok (.iload_n 1, 1) := by decide +kernel
theorem dX7_copy_1 : decode cX7_copy 1 = .ok (.invokestatic 58, 3) := by decide +kernel
theorem dX7_copy_4 : decode cX7_copy 4 = .ok (.ifCond .eq 10, 3) := by decide +kernel
theorem dX7_copy_7 : decode cX7_copy 7 = .ok (.iload_n 3, 1) := by decide +kernel
theorem dX7_copy_8 : decode cX7_copy 8 = .ok (.invokestatic 58, 3) := by decide +kernel
theorem dX7_copy_11 : decode cX7_copy 11 = .ok (.ifCond .ne 6, 3) := by decide +kernel
theorem dX7_copy_14 : decode cX7_copy 14 = .ok (.ldc 64, 2) := by decide +kernel
theorem dX7_copy_16 : decode cX7_copy 16 = .ok (.ireturn, 1) := by decide +kernel
theorem dX7_copy_17 : decode cX7_copy 17 = .ok (.aload_n 0, 1) := by decide +kernel
theorem dX7_copy_18 : decode cX7_copy 18 = .ok (.getfield 13, 3) := by decide +kernel
theorem dX7_copy_21 : decode cX7_copy 21 = .ok (.iload_n 1, 1) := by decide +kernel
theorem dX7_copy_22 : decode cX7_copy 22 = .ok (.iaload, 1) := by decide +kernel
theorem dX7_copy_23 : decode cX7_copy 23 = .ok (.ifCond .lt 12, 3) := by decide +kernel
theorem dX7_copy_26 : decode cX7_copy 26 = .ok (.aload_n 0, 1) := by decide +kernel
theorem dX7_copy_27 : decode cX7_copy 27 = .ok (.getfield 13, 3) := by decide +kernel
theorem dX7_copy_30 : decode cX7_copy 30 = .ok (.iload_n 3, 1) := by decide +kernel
theorem dX7_copy_31 : decode cX7_copy 31 = .ok (.iaload, 1) := by decide +kernel
theorem dX7_copy_32 : decode cX7_copy 32 = .ok (.ifCond .ge 9, 3) := by decide +kernel
theorem dX7_copy_35 : decode cX7_copy 35 = .ok (.aload_n 0, 1) := by decide +kernel
theorem dX7_copy_36 : decode cX7_copy 36 = .ok (.iconst 1, 1) := by decide +kernel
theorem dX7_copy_37 : decode cX7_copy 37 = .ok (.invokevirtual 65, 3) := by decide +kernel
theorem dX7_copy_40 : decode cX7_copy 40 = .ok (.ireturn, 1) := by decide +kernel
theorem dX7_copy_41 : decode cX7_copy 41 = .ok (.aload_n 0, 1) := by decide +kernel
theorem dX7_copy_42 : decode cX7_copy 42 = .ok (.getfield 7, 3) := by decide +kernel
theorem dX7_copy_45 : decode cX7_copy 45 = .ok (.iload_n 1, 1) := by decide +kernel
theorem dX7_copy_46 : decode cX7_copy 46 = .ok (.iaload, 1) := by decide +kernel
theorem dX7_copy_47 : decode cX7_copy 47 = .ok (.aload_n 0, 1) := by decide +kernel
theorem dX7_copy_48 : decode cX7_copy 48 = .ok (.getfield 7, 3) := by decide +kernel
theorem dX7_copy_51 : decode cX7_copy 51 = .ok (.iload_n 3, 1) := by decide +kernel
theorem dX7_copy_52 : decode cX7_copy 52 = .ok (.iaload, 1) := by decide +kernel
theorem dX7_copy_53 : decode cX7_copy 53 = .ok (.if_icmp .eq 9, 3) := by decide +kernel
theorem dX7_copy_56 : decode cX7_copy 56 = .ok (.aload_n 0, 1) := by decide +kernel
theorem dX7_copy_57 : decode cX7_copy 57 = .ok (.iconst 5, 1) := by decide +kernel
theorem dX7_copy_58 : decode cX7_copy 58 = .ok (.invokevirtual 65, 3) := by decide +kernel
theorem dX7_copy_61 : decode cX7_copy 61 = .ok (.ireturn, 1) := by decide +kernel
theorem dX7_copy_62 : decode cX7_copy 62 = .ok (.iload 5, 2) := by decide +kernel
theorem dX7_copy_64 : decode cX7_copy 64 = .ok (.ifCond .lt 44, 3) := by decide +kernel
theorem dX7_copy_67 : decode cX7_copy 67 = .ok (.iload_n 2, 1) := by decide +kernel
theorem dX7_copy_68 : decode cX7_copy 68 = .ok (.i2l, 1) := by decide +kernel
theorem dX7_copy_69 : decode cX7_copy 69 = .ok (.lconst 0, 1) := by decide +kernel
theorem dX7_copy_70 : decode cX7_copy 70 = .ok (.aload_n 0, 1) := by decide +kernel
theorem dX7_copy_71 : decode cX7_copy 71 = .ok (.getfield 13, 3) := by decide +kernel
theorem dX7_copy_74 : decode cX7_copy 74 = .ok (.iload_n 1, 1) := by decide +kernel
theorem dX7_copy_75 : decode cX7_copy 75 = .ok (.iaload, 1) := by decide +kernel
theorem dX7_copy_76 : decode cX7_copy 76 = .ok (.i2l, 1) := by decide +kernel
theorem dX7_copy_77 : decode cX7_copy 77 = .ok (.iload 5, 2) := by decide +kernel
theorem dX7_copy_79 : decode cX7_copy 79 = .ok (.i2l, 1) := by decide +kernel
theorem dX7_copy_80 : decode cX7_copy 80 = .ok (.lsub, 1) := by decide +kernel
theorem dX7_copy_81 : decode cX7_copy 81 = .ok (.invokestatic 54, 3) := by decide +kernel
theorem dX7_copy_84 : decode cX7_copy 84 = .ok (.ifCond .eq 24, 3) := by decide +kernel
theorem dX7_copy_87 : decode cX7_copy 87 = .ok (.iload 4, 2) := by decide +kernel
theorem dX7_copy_89 : decode cX7_copy 89 = .ok (.i2l, 1) := by decide +kernel
theorem dX7_copy_90 : decode cX7_copy 90 = .ok (.lconst 0, 1) := by decide +kernel
theorem dX7_copy_91 : decode cX7_copy 91 = .ok (.aload_n 0, 1) := by decide +kernel
theorem dX7_copy_92 : decode cX7_copy 92 = .ok (.getfield 13, 3) := by decide +kernel
theorem dX7_copy_95 : decode cX7_copy 95 = .ok (.iload_n 3, 1) := by decide +kernel
theorem dX7_copy_96 : decode cX7_copy 96 = .ok (.iaload, 1) := by decide +kernel
theorem dX7_copy_97 : decode cX7_copy 97 = .ok (.i2l, 1) := by decide +kernel
theorem dX7_copy_98 : decode cX7_copy 98 = .ok (.iload 5, 2) := by decide +kernel
theorem dX7_copy_100 : decode cX7_copy 100 = .ok (.i2l, 1) := by decide +kernel
theorem dX7_copy_101 : decode cX7_copy 101 = .ok (.lsub, 1) := by decide +kernel
theorem dX7_copy_102 : decode cX7_copy 102 = .ok (.invokestatic 54, 3) := by decide +kernel
theorem dX7_copy_105 : decode cX7_copy 105 = .ok (.ifCond .ne 9, 3) := by decide +kernel
theorem dX7_copy_108 : decode cX7_copy 108 = .ok (.aload_n 0, 1) := by decide +kernel
theorem dX7_copy_109 : decode cX7_copy 109 = .ok (.iconst 2, 1) := by decide +kernel
theorem dX7_copy_110 : decode cX7_copy 110 = .ok (.invokevirtual 65, 3) := by decide +kernel
theorem dX7_copy_113 : decode cX7_copy 113 = .ok (.ireturn, 1) := by decide +kernel
theorem dX7_copy_114 : decode cX7_copy 114 = .ok (.iconst 0, 1) := by decide +kernel
theorem dX7_copy_115 : decode cX7_copy 115 = .ok (.istore 6, 2) := by decide +kernel
theorem dX7_copy_117 : decode cX7_copy 117 = .ok (.iload 6, 2) := by decide +kernel
theorem dX7_copy_119 : decode cX7_copy 119 = .ok (.iload 5, 2) := by decide +kernel
theorem dX7_copy_121 : decode cX7_copy 121 = .ok (.if_icmp .ge 30, 3) := by decide +kernel
theorem dX7_copy_124 : decode cX7_copy 124 = .ok (.aload_n 0, 1) := by decide +kernel
theorem dX7_copy_125 : decode cX7_copy 125 = .ok (.getfield 22, 3) := by decide +kernel
theorem dX7_copy_128 : decode cX7_copy 128 = .ok (.iload 6, 2) := by decide +kernel
theorem dX7_copy_130 : decode cX7_copy 130 = .ok (.aload_n 0, 1) := by decide +kernel
theorem dX7_copy_131 : decode cX7_copy 131 = .ok (.getfield 16, 3) := by decide +kernel
theorem dX7_copy_134 : decode cX7_copy 134 = .ok (.bipush 40, 2) := by decide +kernel
theorem dX7_copy_136 : decode cX7_copy 136 = .ok (.iload_n 1, 1) := by decide +kernel
theorem dX7_copy_137 : decode cX7_copy 137 = .ok (.imul, 1) := by decide +kernel
theorem dX7_copy_138 : decode cX7_copy 138 = .ok (.iload_n 2, 1) := by decide +kernel
theorem dX7_copy_139 : decode cX7_copy 139 = .ok (.iadd, 1) := by decide +kernel
theorem dX7_copy_140 : decode cX7_copy 140 = .ok (.iload 6, 2) := by decide +kernel
theorem dX7_copy_142 : decode cX7_copy 142 = .ok (.iadd, 1) := by decide +kernel
theorem dX7_copy_143 : decode cX7_copy 143 = .ok (.iaload, 1) := by decide +kernel
theorem dX7_copy_144 : decode cX7_copy 144 = .ok (.iastore, 1) := by decide +kernel
theorem dX7_copy_145 : decode cX7_copy 145 = .ok (.iinc 6 1, 3) := by decide +kernel
theorem dX7_copy_148 : decode cX7_copy 148 = .ok (.goto (-31), 3) := by decide +kernel
theorem dX7_copy_151 : decode cX7_copy 151 = .ok (.iconst 0, 1) := by decide +kernel
theorem dX7_copy_152 : decode cX7_copy 152 = .ok (.istore 6, 2) := by decide +kernel
theorem dX7_copy_154 : decode cX7_copy 154 = .ok (.iload 6, 2) := by decide +kernel
theorem dX7_copy_156 : decode cX7_copy 156 = .ok (.iload 5, 2) := by decide +kernel
theorem dX7_copy_158 : decode cX7_copy 158 = .ok (.if_icmp .ge 31, 3) := by decide +kernel
theorem dX7_copy_161 : decode cX7_copy 161 = .ok (.aload_n 0, 1) := by decide +kernel
theorem dX7_copy_162 : decode cX7_copy 162 = .ok (.getfield 16, 3) := by decide +kernel
theorem dX7_copy_165 : decode cX7_copy 165 = .ok (.bipush 40, 2) := by decide +kernel
theorem dX7_copy_167 : decode cX7_copy 167 = .ok (.iload_n 3, 1) := by decide +kernel
theorem dX7_copy_168 : decode cX7_copy 168 = .ok (.imul, 1) := by decide +kernel
theorem dX7_copy_169 : decode cX7_copy 169 = .ok (.iload 4, 2) := by decide +kernel
theorem dX7_copy_171 : decode cX7_copy 171 = .ok (.iadd, 1) := by decide +kernel
theorem dX7_copy_172 : decode cX7_copy 172 = .ok (.iload 6, 2) := by decide +kernel
theorem dX7_copy_174 : decode cX7_copy 174 = .ok (.iadd, 1) := by decide +kernel
theorem dX7_copy_175 : decode cX7_copy 175 = .ok (.aload_n 0, 1) := by decide +kernel
theorem dX7_copy_176 : decode cX7_copy 176 = .ok (.getfield 22, 3) := by decide +kernel
theorem dX7_copy_179 : decode cX7_copy 179 = .ok (.iload 6, 2) := by decide +kernel
theorem dX7_copy_181 : decode cX7_copy 181 = .ok (.iaload, 1) := by decide +kernel
theorem dX7_copy_182 : decode cX7_copy 182 = .ok (.iastore, 1) := by decide +kernel
theorem dX7_copy_183 : decode cX7_copy 183 = .ok (.iinc 6 1, 3) := by decide +kernel
theorem dX7_copy_186 : decode cX7_copy 186 = .ok (.goto (-32), 3) := by decide +kernel
theorem dX7_copy_189 : decode cX7_copy 189 = .ok (.aload_n 0, 1) := by decide +kernel
theorem dX7_copy_190 : decode cX7_copy 190 = .ok (.iload 5, 2) := by decide +kernel
theorem dX7_copy_192 : decode cX7_copy 192 = .ok (.invokevirtual 69, 3) := by decide +kernel
theorem dX7_copy_195 : decode cX7_copy 195 = .ok (.ireturn, 1) := by decide +kernel
set_option maxRecDepth 20000 in
theorem ggX7_drop_X7_isRow : GoodIn wsX7_drop wsX7_isRow := goodIn_r _ [6, 7, 8, 9, 5, 10] (by decide +kernel) (by decide +kernel)
set_option maxRecDepth 20000 in
theorem gX7_drop_X7_isRow : GoodIn wsX7_drop (va_wsS RX7 58 yX7_isRow wsX7_isRow) := goodIn_app (goodIn_of _ (by decide +kernel)) ggX7_drop_X7_isRow
set_option maxRecDepth 20000 in
theorem ggX7_drop_X7_find : GoodIn wsX7_drop wsX7_find := goodIn_r _ [14, 15, 16, 21, 22, 23, 24, 25, 26, 27, 28, 29, 30, 31, 32, 33, 34, 35, 36, 37, 38, 39, 40, 41, 42, 43, 44] (by decide +kernel) (by decide +kernel)
set_option maxRecDepth 20000 in
theorem gX7_drop_X7_find : GoodIn wsX7_drop (wsV RX7 65 RX7 yX7_find wsX7_find) := goodIn_app (goodIn_of _ (by decide +kernel)) ggX7_drop_X7_find
set_option maxRecDepth 20000 in
theorem ggX7_drop_X7_well : GoodIn wsX7_drop wsX7_well := goodIn_r _ [20, 15, 21, 22, 23, 24, 25, 26, 27, 28, 29, 30, 31, 32, 33, 34, 35, 36, 37, 38, 39, 40, 41, 42, 43, 44] (by decide +kernel) (by decide +kernel)
set_option maxRecDepth 20000 in
theorem gX7_drop_X7_well : GoodIn wsX7_drop (wsV RX7 69 RX7 yX7_well wsX7_well) := goodIn_app (goodIn_of _ (by decide +kernel)) ggX7_drop_X7_well
theorem dX7_drop_0 : decode cX7_drop 0 = .ok (.iload_n 1, 1) := by decide +kernel
theorem dX7_drop_1 : decode cX7_drop 1 = .ok (.invokestatic 58, 3) := by decide +kernel
theorem dX7_drop_4 : decode cX7_drop 4 = .ok (.ifCond .ne 6, 3) := by decide +kernel
theorem dX7_drop_7 : decode cX7_drop 7 = .ok (.ldc 64, 2) := by decide +kernel
theorem dX7_drop_9 : decode cX7_drop 9 = .ok (.ireturn, 1) := by decide +kernel
theorem dX7_drop_10 : decode cX7_drop 10 = .ok (.aload_n 0, 1) := by decide +kernel
theorem dX7_drop_11 : decode cX7_drop 11 = .ok (.getfield 13, 3) := by decide +kernel
theorem dX7_drop_14 : decode cX7_drop 14 = .ok (.iload_n 1, 1) := by decide +kernel
theorem dX7_drop_15 : decode cX7_drop 15 = .ok (.iaload, 1) := by decide +kernel
theorem dX7_drop_16 : decode cX7_drop 16 = .ok (.ifCond .ge 9, 3) := by decide +kernel
theorem dX7_drop_19 : decode cX7_drop 19 = .ok (.aload_n 0, 1) := by decide +kernel
theorem dX7_drop_20 : decode cX7_drop 20 = .ok (.iconst 1, 1) := by decide +kernel
theorem dX7_drop_21 : decode cX7_drop 21 = .ok (.invokevirtual 65, 3) := by decide +kernel
theorem dX7_drop_24 : decode cX7_drop 24 = .ok (.ireturn, 1) := by decide +kernel
theorem dX7_drop_25 : decode cX7_drop 25 = .ok (.aload_n 0, 1) := by decide +kernel
theorem dX7_drop_26 : decode cX7_drop 26 = .ok (.getfield 13, 3) := by decide +kernel
theorem dX7_drop_29 : decode cX7_drop 29 = .ok (.iload_n 1, 1) := by decide +kernel
theorem dX7_drop_30 : decode cX7_drop 30 = .ok (.iaload, 1) := by decide +kernel
theorem dX7_drop_31 : decode cX7_drop 31 = .ok (.istore_n 2, 1) := by decide +kernel
theorem dX7_drop_32 : decode cX7_drop 32 = .ok (.aload_n 0, 1) := by decide +kernel
theorem dX7_drop_33 : decode cX7_drop 33 = .ok (.getfield 13, 3) := by decide +kernel
theorem dX7_drop_36 : decode cX7_drop 36 = .ok (.iload_n 1, 1) := by decide +kernel
theorem dX7_drop_37 : decode cX7_drop 37 = .ok (.iconst (-1), 1) := by decide +kernel
theorem dX7_drop_38 : decode cX7_drop 38 = .ok (.iastore, 1) := by decide +kernel
theorem dX7_drop_39 : decode cX7_drop 39 = .ok (.aload_n 0, 1) := by decide +kernel
theorem dX7_drop_40 : decode cX7_drop 40 = .ok (.iload_n 2, 1) := by decide +kernel
theorem dX7_drop_41 : decode cX7_drop 41 = .ok (.invokevirtual 69, 3) := by decide +kernel
theorem dX7_drop_44 : decode cX7_drop 44 = .ok (.ireturn, 1) := by decide +kernel
set_option maxRecDepth 20000 in
theorem ggX7_feed_X7_in : GoodIn wsX7_feed wsX7_in := goodIn_r _ [9] (by decide +kernel) (by decide +kernel)
set_option maxRecDepth 20000 in
theorem gX7_feed_X7_in : GoodIn wsX7_feed (va_wsS RX7 54 yX7_in wsX7_in) := goodIn_app (goodIn_of _ (by decide +kernel)) ggX7_feed_X7_in
theorem dX7_feed_0 : decode cX7_feed 0 = .ok (.iload_n 1, 1) := by decide +kernel
theorem dX7_feed_1 : decode cX7_feed 1 = .ok (.i2l, 1) := by decide +kernel
theorem dX7_feed_2 : decode cX7_feed 2 = .ok (.lconst 0, 1) := by decide +kernel
theorem dX7_feed_3 : decode cX7_feed 3 = .ok (.ldc2_w 76, 3) := by decide +kernel
theorem dX7_feed_6 : decode cX7_feed 6 = .ok (.invokestatic 54, 3) := by decide +kernel
theorem dX7_feed_9 : decode cX7_feed 9 = .ok (.ifCond .ne 6, 3) := by decide +kernel
theorem dX7_feed_12 : decode cX7_feed 12 = .ok (.ldc 64, 2) := by decide +kernel
theorem dX7_feed_14 : decode cX7_feed 14 = .ok (.ireturn, 1) := by decide +kernel
theorem dX7_feed_15 : decode cX7_feed 15 = .ok (.aload_n 0, 1) := by decide +kernel
theorem dX7_feed_16 : decode cX7_feed 16 = .ok (.getfield 78, 3) := by decide +kernel
theorem dX7_feed_19 : decode cX7_feed 19 = .ok (.bipush 120, 2) := by decide +kernel
theorem dX7_feed_21 : decode cX7_feed 21 = .ok (.if_icmp .ne 6, 3) := by decide +kernel
theorem dX7_feed_24 : decode cX7_feed 24 = .ok (.ldc 81, 2) := by decide +kernel
theorem dX7_feed_26 : decode cX7_feed 26 = .ok (.ireturn, 1) := by decide +kernel
theorem dX7_feed_27 : decode cX7_feed 27 = .ok (.aload_n 0, 1) := by decide +kernel
theorem dX7_feed_28 : decode cX7_feed 28 = .ok (.getfield 25, 3) := by decide +kernel
theorem dX7_feed_31 : decode cX7_feed 31 = .ok (.aload_n 0, 1) := by decide +kernel
theorem dX7_feed_32 : decode cX7_feed 32 = .ok (.getfield 78, 3) := by decide +kernel
theorem dX7_feed_35 : decode cX7_feed 35 = .ok (.iload_n 1, 1) := by decide +kernel
theorem dX7_feed_36 : decode cX7_feed 36 = .ok (.iastore, 1) := by decide +kernel
theorem dX7_feed_37 : decode cX7_feed 37 = .ok (.aload_n 0, 1) := by decide +kernel
theorem dX7_feed_38 : decode cX7_feed 38 = .ok (.dup, 1) := by decide +kernel
theorem dX7_feed_39 : decode cX7_feed 39 = .ok (.getfield 78, 3) := by decide +kernel
theorem dX7_feed_42 : decode cX7_feed 42 = .ok (.iconst 1, 1) := by decide +kernel
theorem dX7_feed_43 : decode cX7_feed 43 = .ok (.iadd, 1) := by decide +kernel
theorem dX7_feed_44 : decode cX7_feed 44 = .ok (.putfield 78, 3) := by decide +kernel
theorem dX7_feed_47 : decode cX7_feed 47 = .ok (.aload_n 0, 1) := by decide +kernel
theorem dX7_feed_48 : decode cX7_feed 48 = .ok (.getfield 78, 3) := by decide +kernel
theorem dX7_feed_51 : decode cX7_feed 51 = .ok (.ireturn, 1) := by decide +kernel
set_option maxRecDepth 20000 in
theorem ggX7_nextToken_X7_in : GoodIn wsX7_nextToken wsX7_in := goodIn_r _ [14] (by decide +kernel) (by decide +kernel)
set_option maxRecDepth 20000 in
theorem gX7_nextToken_X7_in : GoodIn wsX7_nextToken (va_wsS RX7 54 yX7_in wsX7_in) := goodIn_app (goodIn_of _ (by decide +kernel)) ggX7_nextToken_X7_in
theorem dX7_nextToken_0 : decode cX7_nextToken 0 = .ok (.aload_n 0, 1) := by decide +kernel
theorem dX7_nextToken_1 : decode cX7_nextToken 1 = .ok (.aload_n 0, 1) := by decide +kernel
theorem dX7_nextToken_2 : decode cX7_nextToken 2 = .ok (.getfield 82, 3) := by decide +kernel
theorem dX7_nextToken_5 : decode cX7_nextToken 5 = .ok (.putfield 85, 3) := by decide +kernel
theorem dX7_nextToken_8 : decode cX7_nextToken 8 = .ok (.aload_n 0, 1) := by decide +kernel
theorem dX7_nextToken_9 : decode cX7_nextToken 9 = .ok (.aload_n 0, 1) := by decide +kernel
theorem dX7_nextToken_10 : decode cX7_nextToken 10 = .ok (.getfield 82, 3) := by decide +kernel
theorem dX7_nextToken_13 : decode cX7_nextToken 13 = .ok (.aload_n 0, 1) := by decide +kernel
theorem dX7_nextToken_14 : decode cX7_nextToken 14 = .ok (.getfield 78, 3) := by decide +kernel
theorem dX7_nextToken_17 : decode cX7_nextToken 17 = .ok (.if_icmp .ne 7, 3) := by decide +kernel
theorem dX7_nextToken_20 : decode cX7_nextToken 20 = .ok (.iconst 3, 1) := by decide +kernel
theorem dX7_nextToken_21 : decode cX7_nextToken 21 = .ok (.goto 4, 3) := by decide +kernel
theorem dX7_nextToken_24 : decode cX7_nextToken 24 = .ok (.iconst 0, 1) := by decide +kernel
theorem dX7_nextToken_25 : decode cX7_nextToken 25 = .ok (.putfield 88, 3) := by decide +kernel
theorem dX7_nextToken_28 : decode cX7_nextToken 28 = .ok (.aload_n 0, 1) := by decide +kernel
theorem dX7_nextToken_29 : decode cX7_nextToken 29 = .ok (.iconst 0, 1) := by decide +kernel
theorem dX7_nextToken_30 : decode cX7_nextToken 30 = .ok (.putfield 91, 3) := by decide +kernel
theorem dX7_nextToken_33 : decode cX7_nextToken 33 = .ok (.aload_n 0, 1) := by decide +kernel
theorem dX7_nextToken_34 : decode cX7_nextToken 34 = .ok (.getfield 82, 3) := by decide +kernel
theorem dX7_nextToken_37 : decode cX7_nextToken 37 = .ok (.aload_n 0, 1) := by decide +kernel
theorem dX7_nextToken_38 : decode cX7_nextToken 38 = .ok (.getfield 78, 3) := by decide +kernel
theorem dX7_nextToken_41 : decode cX7_nextToken 41 = .ok (.if_icmp .ge 78, 3) := by decide +kernel
theorem dX7_nextToken_44 : decode cX7_nextToken 44 = .ok (.aload_n 0, 1) := by decide +kernel
theorem dX7_nextToken_45 : decode cX7_nextToken 45 = .ok (.getfield 25, 3) := by decide +kernel
theorem dX7_nextToken_48 : decode cX7_nextToken 48 = .ok (.aload_n 0, 1) := by decide +kernel
theorem dX7_nextToken_49 : decode cX7_nextToken 49 = .ok (.getfield 82, 3) := by decide +kernel
theorem dX7_nextToken_52 : decode cX7_nextToken 52 = .ok (.iaload, 1) := by decide +kernel
theorem dX7_nextToken_53 : decode cX7_nextToken 53 = .ok (.i2l, 1) := by decide +kernel
theorem dX7_nextToken_54 : decode cX7_nextToken 54 = .ok (.ldc2_w 94, 3) := by decide +kernel
theorem dX7_nextToken_57 : decode cX7_nextToken 57 = .ok (.ldc2_w 96, 3) := by decide +kernel
theorem dX7_nextToken_60 : decode cX7_nextToken 60 = .ok (.invokestatic 54, 3) := by decide +kernel
theorem dX7_nextToken_63 : decode cX7_nextToken 63 = .ok (.ifCond .eq 56, 3) := by decide +kernel
theorem dX7_nextToken_66 : decode cX7_nextToken 66 = .ok (.aload_n 0, 1) := by decide +kernel
theorem dX7_nextToken_67 : decode cX7_nextToken 67 = .ok (.aload_n 0, 1) := by decide +kernel
theorem dX7_nextToken_68 : decode cX7_nextToken 68 = .ok (.getfield 91, 3) := by decide +kernel
theorem dX7_nextToken_71 : decode cX7_nextToken 71 = .ok (.bipush 99, 2) := by decide +kernel
theorem dX7_nextToken_73 : decode cX7_nextToken 73 = .ok (.if_icmp .le 10, 3) := by decide +kernel
theorem dX7_nextToken_76 : decode cX7_nextToken 76 = .ok (.aload_n 0, 1) := by decide +kernel
theorem dX7_nextToken_77 : decode cX7_nextToken 77 = .ok (.getfield 91, 3) := by decide +kernel
theorem dX7_nextToken_80 : decode cX7_nextToken 80 = .ok (.goto 23, 3) := by decide +kernel
theorem dX7_nextToken_83 : decode cX7_nextToken 83 = .ok (.bipush 10, 2) := by decide +kernel
theorem dX7_nextToken_85 : decode cX7_nextToken 85 = .ok (.aload_n 0, 1) := by decide +kernel
theorem dX7_nextToken_86 : decode cX7_nextToken 86 = .ok (.getfield 91, 3) := by decide +kernel
theorem dX7_nextToken_89 : decode cX7_nextToken 89 = .ok (.imul, 1) := by decide +kernel
theorem dX7_nextToken_90 : decode cX7_nextToken 90 = .ok (.aload_n 0, 1) := by decide +kernel
theorem dX7_nextToken_91 : decode cX7_nextToken 91 = .ok (.getfield 25, 3) := by decide +kernel
theorem dX7_nextToken_94 : decode cX7_nextToken 94 = .ok (.aload_n 0, 1) := by decide +kernel
theorem dX7_nextToken_95 : decode cX7_nextToken 95 = .ok (.getfield 82, 3) := by decide +kernel
theorem dX7_nextToken_98 : decode cX7_nextToken 98 = .ok (.iaload, 1) := by decide +kernel
theorem dX7_nextToken_99 : decode cX7_nextToken 99 = .ok (.iadd, 1) := by decide +kernel
theorem dX7_nextToken_100 : decode cX7_nextToken 100 = .ok (.bipush 48, 2) := by decide +kernel
theorem dX7_nextToken_102 : decode cX7_nextToken 102 = .ok (.isub, 1) := by decide +kernel
theorem dX7_nextToken_103 : decode cX7_nextToken 103 = .ok (.putfield 91, 3) := by decide +kernel
theorem dX7_nextToken_106 : decode cX7_nextToken 106 = .ok (.aload_n 0, 1) := by decide +kernel
theorem dX7_nextToken_107 : decode cX7_nextToken 107 = .ok (.dup, 1) := by decide +kernel
theorem dX7_nextToken_108 : decode cX7_nextToken 108 = .ok (.getfield 82, 3) := by decide +kernel
theorem dX7_nextToken_111 : decode cX7_nextToken 111 = .ok (.iconst 1, 1) := by decide +kernel
theorem dX7_nextToken_112 : decode cX7_nextToken 112 = .ok (.iadd, 1) := by decide +kernel
theorem dX7_nextToken_113 : decode cX7_nextToken 113 = .ok (.putfield 82, 3) := by decide +kernel
theorem dX7_nextToken_116 : decode cX7_nextToken 116 = .ok (.goto (-83), 3) := by decide +kernel
theorem dX7_nextToken_119 : decode cX7_nextToken 119 = .ok (.aload_n 0, 1) := by decide +kernel
theorem dX7_nextToken_120 : decode cX7_nextToken 120 = .ok (.getfield 82, 3) := by decide +kernel
theorem dX7_nextToken_123 : decode cX7_nextToken 123 = .ok (.aload_n 0, 1) := by decide +kernel
theorem dX7_nextToken_124 : decode cX7_nextToken 124 = .ok (.getfield 85, 3) := by decide +kernel
theorem dX7_nextToken_127 : decode cX7_nextToken 127 = .ok (.if_icmp .le 28, 3) := by decide +kernel
theorem dX7_nextToken_130 : decode cX7_nextToken 130 = .ok (.aload_n 0, 1) := by decide +kernel
theorem dX7_nextToken_131 : decode cX7_nextToken 131 = .ok (.aload_n 0, 1) := by decide +kernel
theorem dX7_nextToken_132 : decode cX7_nextToken 132 = .ok (.getfield 82, 3) := by decide +kernel
theorem dX7_nextToken_135 : decode cX7_nextToken 135 = .ok (.aload_n 0, 1) := by decide +kernel
theorem dX7_nextToken_136 : decode cX7_nextToken 136 = .ok (.getfield 85, 3) := by decide +kernel
theorem dX7_nextToken_139 : decode cX7_nextToken 139 = .ok (.isub, 1) := by decide +kernel
theorem dX7_nextToken_140 : decode cX7_nextToken 140 = .ok (.iconst 2, 1) := by decide +kernel
theorem dX7_nextToken_141 : decode cX7_nextToken 141 = .ok (.if_icmp .le 7, 3) := by decide +kernel
theorem dX7_nextToken_144 : decode cX7_nextToken 144 = .ok (.iconst 0, 1) := by decide +kernel
theorem dX7_nextToken_145 : decode cX7_nextToken 145 = .ok (.goto 4, 3) := by decide +kernel
theorem dX7_nextToken_148 : decode cX7_nextToken 148 = .ok (.iconst 2, 1) := by decide +kernel
theorem dX7_nextToken_149 : decode cX7_nextToken 149 = .ok (.putfield 88, 3) := by decide +kernel
theorem dX7_nextToken_152 : decode cX7_nextToken 152 = .ok (.goto 77, 3) := by decide +kernel
theorem dX7_nextToken_155 : decode cX7_nextToken 155 = .ok (.aload_n 0, 1) := by decide +kernel
theorem dX7_nextToken_156 : decode cX7_nextToken 156 = .ok (.getfield 88, 3) := by decide +kernel
theorem dX7_nextToken_159 : decode cX7_nextToken 159 = .ok (.ifCond .ne 70, 3) := by decide +kernel
theorem dX7_nextToken_162 : decode cX7_nextToken 162 = .ok (.aload_n 0, 1) := by decide +kernel
theorem dX7_nextToken_163 : decode cX7_nextToken 163 = .ok (.aload_n 0, 1) := by decide +kernel
theorem dX7_nextToken_164 : decode cX7_nextToken 164 = .ok (.getfield 25, 3) := by decide +kernel
theorem dX7_nextToken_167 : decode cX7_nextToken 167 = .ok (.aload_n 0, 1) := by decide +kernel
theorem dX7_nextToken_168 : decode cX7_nextToken 168 = .ok (.getfield 82, 3) := by decide +kernel
theorem dX7_nextToken_171 : decode cX7_nextToken 171 = .ok (.iaload, 1) := by decide +kernel
theorem dX7_nextToken_172 : decode cX7_nextToken 172 = .ok (.putfield 91, 3) := by decide +kernel
theorem dX7_nextToken_175 : decode cX7_nextToken 175 = .ok (.aload_n 0, 1) := by decide +kernel
theorem dX7_nextToken_176 : decode cX7_nextToken 176 = .ok (.aload_n 0, 1) := by decide +kernel
theorem dX7_nextToken_177 : decode cX7_nextToken 177 = .ok (.getfield 91, 3) := by decide +kernel
theorem dX7_nextToken_180 : decode cX7_nextToken 180 = .ok (.i2l, 1) := by decide +kernel
theorem dX7_nextToken_181 : decode cX7_nextToken 181 = .ok (.ldc2_w 98, 3) := by decide +kernel
theorem dX7_nextToken_184 : decode cX7_nextToken 184 = .ok (.ldc2_w 100, 3) := by decide +kernel
theorem dX7_nextToken_187 : decode cX7_nextToken 187 = .ok (.invokestatic 54, 3) := by decide +kernel
theorem dX7_nextToken_190 : decode cX7_nextToken 190 = .ok (.ifCond .ne 21, 3) := by decide +kernel
theorem dX7_nextToken_193 : decode cX7_nextToken 193 = .ok (.aload_n 0, 1) := by decide +kernel
theorem dX7_nextToken_194 : decode cX7_nextToken 194 = .ok (.getfield 91, 3) := by decide +kernel
theorem dX7_nextToken_197 : decode cX7_nextToken 197 = .ok (.bipush 44, 2) := by decide +kernel
theorem dX7_nextToken_199 : decode cX7_nextToken 199 = .ok (.if_icmp .eq 12, 3) := by decide +kernel
theorem dX7_nextToken_202 : decode cX7_nextToken 202 = .ok (.aload_n 0, 1) := by decide +kernel
theorem dX7_nextToken_203 : decode cX7_nextToken 203 = .ok (.getfield 91, 3) := by decide +kernel
theorem dX7_nextToken_206 : decode cX7_nextToken 206 = .ok (.bipush 59, 2) := by decide +kernel
theorem dX7_nextToken_208 : decode cX7_nextToken 208 = .ok (.if_icmp .ne 7, 3) := by decide +kernel
theorem dX7_nextToken_211 : decode cX7_nextToken 211 = .ok (.iconst 1, 1) := by decide +kernel
theorem dX7_nextToken_212 : decode cX7_nextToken 212 = .ok (.goto 4, 3) := by decide +kernel
theorem dX7_nextToken_215 : decode cX7_nextToken 215 = .ok (.iconst 0, 1) := by decide +kernel
theorem dX7_nextToken_216 : decode cX7_nextToken 216 = .ok (.putfield 88, 3) := by decide +kernel
theorem dX7_nextToken_219 : decode cX7_nextToken 219 = .ok (.aload_n 0, 1) := by decide +kernel
theorem dX7_nextToken_220 : decode cX7_nextToken 220 = .ok (.dup, 1) := by decide +kernel
theorem dX7_nextToken_221 : decode cX7_nextToken 221 = .ok (.getfield 82, 3) := by decide +kernel
theorem dX7_nextToken_224 : decode cX7_nextToken 224 = .ok (.iconst 1, 1) := by decide +kernel
theorem dX7_nextToken_225 : decode cX7_nextToken 225 = .ok (.iadd, 1) := by decide +kernel
theorem dX7_nextToken_226 : decode cX7_nextToken 226 = .ok (.putfield 82, 3) := by decide +kernel
theorem dX7_nextToken_229 : decode cX7_nextToken 229 = .ok (.return_, 1) := by decide +kernel
theorem dX7_faults_0 : decode cX7_faults 0 = .ok (.aload_n 0, 1) := by decide +kernel
theorem dX7_faults_1 : decode cX7_faults 1 = .ok (.iload_n 1, 1) := by decide +kernel
theorem dX7_faults_2 : decode cX7_faults 2 = .ok (.putfield 102, 3) := by decide +kernel
theorem dX7_faults_5 : decode cX7_faults 5 = .ok (.iconst 0, 1) := by decide +kernel
theorem dX7_faults_6 : decode cX7_faults 6 = .ok (.ireturn, 1) := by decide +kernel
theorem dX7_isLetter_0 : decode cX7_isLetter 0 = .ok (.aload_n 0, 1) := by decide +kernel
theorem dX7_isLetter_1 : decode cX7_isLetter 1 = .ok (.getfield 88, 3) := by decide +kernel
theorem dX7_isLetter_4 : decode cX7_isLetter 4 = .ok (.iconst 1, 1) := by decide +kernel
theorem dX7_isLetter_5 : decode cX7_isLetter 5 = .ok (.if_icmp .ne 15, 3) := by decide +kernel
theorem dX7_isLetter_8 : decode cX7_isLetter 8 = .ok (.aload_n 0, 1) := by decide +kernel
theorem dX7_isLetter_9 : decode cX7_isLetter 9 = .ok (.getfield 91, 3) := by decide +kernel
theorem dX7_isLetter_12 : decode cX7_isLetter 12 = .ok (.iload_n 1, 1) := by decide +kernel
theorem dX7_isLetter_13 : decode cX7_isLetter 13 = .ok (.if_icmp .ne 7, 3) := by decide +kernel
theorem dX7_isLetter_16 : decode cX7_isLetter 16 = .ok (.iconst 1, 1) := by decide +kernel
theorem dX7_isLetter_17 : decode cX7_isLetter 17 = .ok (.goto 4, 3) := by decide +kernel
theorem dX7_isLetter_20 : decode cX7_isLetter 20 = .ok (.iconst 0, 1) := by decide +kernel
theorem dX7_isLetter_21 : decode cX7_isLetter 21 = .ok (.ireturn, 1) := by decide +kernel
set_option maxRecDepth 20000 in
theorem ggX7_takes_X7_isLetter : GoodIn wsX7_takes wsX7_isLetter := goodIn_r _ [5, 6, 7, 28, 29, 30, 31, 32, 33, 34, 35, 36, 37, 38, 39, 40, 41, 42, 43, 44, 45, 46, 47, 48, 49, 50, 51] (by decide +kernel) (by decide +kernel)
set_option maxRecDepth 20000 in
theorem gX7_takes_X7_isLetter : GoodIn wsX7_takes (wsV RX7 105 RX7 yX7_isLetter wsX7_isLetter) := goodIn_app (goodIn_of _ (by decide +kernel)) ggX7_takes_X7_isLetter
set_option maxRecDepth 20000 in
theorem ggX7_takes_X7_faults : GoodIn wsX7_takes wsX7_faults := goodIn_r _ [11, 12, 28, 29, 30, 31, 32, 33, 34, 35, 36, 37, 38, 39, 40, 41, 42, 43, 44, 45, 46, 47, 48, 49, 50, 51] (by decide +kernel) (by decide +kernel)
set_option maxRecDepth 20000 in
theorem gX7_takes_X7_faults : GoodIn wsX7_takes (wsV RX7 108 RX7 yX7_faults wsX7_faults) := goodIn_app (goodIn_of _ (by decide +kernel)) ggX7_takes_X7_faults
set_option maxRecDepth 20000 in
theorem ggX7_takes_X7_nextToken : GoodIn wsX7_takes wsX7_nextToken := goodIn_r _ [16, 17, 18, 19, 6, 7, 20, 21, 22, 23, 24, 25, 26, 4, 27, 28, 29, 30, 31, 32, 33, 34, 35, 36, 37, 38, 39, 40, 41, 42, 43, 44, 45, 46, 47, 48, 49, 50, 51] (by decide +kernel) (by decide +kernel)
set_option maxRecDepth 20000 in
theorem gX7_takes_X7_nextToken : GoodIn wsX7_takes (wsV RX7 111 RX7 yX7_nextToken wsX7_nextToken) := goodIn_app (goodIn_of _ (by decide +kernel)) ggX7_takes_X7_nextToken
theorem dX7_takes_0 : decode cX7_takes 0 = .ok (.aload_n 0, 1) := by decide +kernel
theorem dX7_takes_1 : decode cX7_takes 1 = .ok (.iload_n 1, 1) := by decide +kernel
theorem dX7_takes_2 : decode cX7_takes 2 = .ok (.invokevirtual 105, 3) := by decide +kernel
theorem dX7_takes_5 : decode cX7_takes 5 = .ok (.ifCond .ne 9, 3) := by decide +kernel
theorem dX7_takes_8 : decode cX7_takes 8 = .ok (.aload_n 0, 1) := by decide +kernel
theorem dX7_takes_9 : decode cX7_takes 9 = .ok (.iconst 1, 1) := by decide +kernel
theorem dX7_takes_10 : decode cX7_takes 10 = .ok (.invokevirtual 108, 3) := by decide +kernel
theorem dX7_takes_13 : decode cX7_takes 13 = .ok (.ireturn, 1) := by decide +kernel
theorem dX7_takes_14 : decode cX7_takes 14 = .ok (.aload_n 0, 1) := by decide +kernel
theorem dX7_takes_15 : decode cX7_takes 15 = .ok (.invokevirtual 111, 3) := by decide +kernel
theorem dX7_takes_18 : decode cX7_takes 18 = .ok (.iconst 1, 1) := by decide +kernel
theorem dX7_takes_19 : decode cX7_takes 19 = .ok (.ireturn, 1) := by decide +kernel
set_option maxRecDepth 20000 in
theorem ggX7_takesNumber_X7_in : GoodIn wsX7_takesNumber wsX7_in := goodIn_r _ [7] (by decide +kernel) (by decide +kernel)
set_option maxRecDepth 20000 in
theorem gX7_takesNumber_X7_in : GoodIn wsX7_takesNumber (va_wsS RX7 54 yX7_in wsX7_in) := goodIn_app (goodIn_of _ (by decide +kernel)) ggX7_takesNumber_X7_in
set_option maxRecDepth 20000 in
theorem ggX7_takesNumber_X7_faults : GoodIn wsX7_takesNumber wsX7_faults := goodIn_r _ [11, 12, 33, 34, 35, 36, 37, 38, 39, 40, 41, 42, 43, 44, 45, 46, 47, 48, 49, 50, 51, 52, 53, 54, 55, 56] (by decide +kernel) (by decide +kernel)
set_option maxRecDepth 20000 in
theorem gX7_takesNumber_X7_faults : GoodIn wsX7_takesNumber (wsV RX7 108 RX7 yX7_faults wsX7_faults) := goodIn_app (goodIn_of _ (by decide +kernel)) ggX7_takesNumber_X7_faults
set_option maxRecDepth 20000 in
theorem ggX7_takesNumber_X7_nextToken : GoodIn wsX7_takesNumber wsX7_nextToken := goodIn_r _ [16, 17, 18, 19, 1, 2, 20, 21, 22, 23, 24, 4, 5, 6, 7, 33, 34, 35, 36, 37, 38, 39, 40, 41, 42, 43, 44, 45, 46, 47, 48, 49, 50, 51, 52, 53, 54, 55, 56] (by decide +kernel) (by decide +kernel)
set_option maxRecDepth 20000 in
theorem gX7_takesNumber_X7_nextToken : GoodIn wsX7_takesNumber (wsV RX7 111 RX7 yX7_nextToken wsX7_nextToken) := goodIn_app (goodIn_of _ (by decide +kernel)) ggX7_takesNumber_X7_nextToken
set_option maxRecDepth 20000 in
theorem ggX7_takesNumber_X7_takes : GoodIn wsX7_takesNumber wsX7_takes := goodIn_r _ [28, 29, 30, 31, 6, 32, 1, 2, 8, 9, 10, 11, 12, 13, 14, 15, 16, 17, 18, 19, 20, 21, 22, 23, 24, 4, 5, 7, 33, 34, 35, 36, 37, 38, 39, 40, 41, 42, 43, 44, 45, 46, 47, 48, 49, 50, 51, 52, 53, 54, 55, 56] (by decide +kernel) (by decide +kernel)
set_option maxRecDepth 20000 in
theorem gX7_takesNumber_X7_takes : GoodIn wsX7_takesNumber (wsV RX7 114 RX7 yX7_takes wsX7_takes) := goodIn_app (goodIn_of _ (by decide +kernel)) ggX7_takesNumber_X7_takes
theorem dX7_takesNumber_0 : decode cX7_takesNumber 0 = .ok (.aload_n 0, 1) := by decide +kernel
theorem dX7_takesNumber_1 : decode cX7_takesNumber 1 = .ok (.getfield 88, 3) := by decide +kernel
theorem dX7_takesNumber_4 : decode cX7_takesNumber 4 = .ok (.iconst 2, 1) := by decide +kernel
theorem dX7_takesNumber_5 : decode cX7_takesNumber 5 = .ok (.if_icmp .ne 18, 3) := by decide +kernel
theorem dX7_takesNumber_8 : decode cX7_takesNumber 8 = .ok (.aload_n 0, 1) := by decide +kernel
theorem dX7_takesNumber_9 : decode cX7_takesNumber 9 = .ok (.getfield 91, 3) := by decide +kernel
theorem dX7_takesNumber_12 : decode cX7_takesNumber 12 = .ok (.i2l, 1) := by decide +kernel
theorem dX7_takesNumber_13 : decode cX7_takesNumber 13 = .ok (.iload_n 1, 1) := by decide +kernel
theorem dX7_takesNumber_14 : decode cX7_takesNumber 14 = .ok (.i2l, 1) := by decide +kernel
theorem dX7_takesNumber_15 : decode cX7_takesNumber 15 = .ok (.iload_n 2, 1) := by decide +kernel
theorem dX7_takesNumber_16 : decode cX7_takesNumber 16 = .ok (.i2l, 1) := by decide +kernel
theorem dX7_takesNumber_17 : decode cX7_takesNumber 17 = .ok (.invokestatic 54, 3) := by decide +kernel
theorem dX7_takesNumber_20 : decode cX7_takesNumber 20 = .ok (.ifCond .ne 21, 3) := by decide +kernel
theorem dX7_takesNumber_23 : decode cX7_takesNumber 23 = .ok (.aload_n 0, 1) := by decide +kernel
theorem dX7_takesNumber_24 : decode cX7_takesNumber 24 = .ok (.aload_n 0, 1) := by decide +kernel
theorem dX7_takesNumber_25 : decode cX7_takesNumber 25 = .ok (.getfield 88, 3) := by decide +kernel
theorem dX7_takesNumber_28 : decode cX7_takesNumber 28 = .ok (.iconst 2, 1) := by decide +kernel
theorem dX7_takesNumber_29 : decode cX7_takesNumber 29 = .ok (.if_icmp .ne 7, 3) := by decide +kernel
theorem dX7_takesNumber_32 : decode cX7_takesNumber 32 = .ok (.iconst 2, 1) := by decide +kernel
theorem dX7_takesNumber_33 : decode cX7_takesNumber 33 = .ok (.goto 4, 3) := by decide +kernel
theorem dX7_takesNumber_36 : decode cX7_takesNumber 36 = .ok (.iconst 1, 1) := by decide +kernel
theorem dX7_takesNumber_37 : decode cX7_takesNumber 37 = .ok (.invokevirtual 108, 3) := by decide +kernel
theorem dX7_takesNumber_40 : decode cX7_takesNumber 40 = .ok (.ireturn, 1) := by decide +kernel
theorem dX7_takesNumber_41 : decode cX7_takesNumber 41 = .ok (.aload_n 0, 1) := by decide +kernel
theorem dX7_takesNumber_42 : decode cX7_takesNumber 42 = .ok (.getfield 28, 3) := by decide +kernel
theorem dX7_takesNumber_45 : decode cX7_takesNumber 45 = .ok (.iload_n 3, 1) := by decide +kernel
theorem dX7_takesNumber_46 : decode cX7_takesNumber 46 = .ok (.aload_n 0, 1) := by decide +kernel
theorem dX7_takesNumber_47 : decode cX7_takesNumber 47 = .ok (.getfield 91, 3) := by decide +kernel
theorem dX7_takesNumber_50 : decode cX7_takesNumber 50 = .ok (.iastore, 1) := by decide +kernel
theorem dX7_takesNumber_51 : decode cX7_takesNumber 51 = .ok (.aload_n 0, 1) := by decide +kernel
theorem dX7_takesNumber_52 : decode cX7_takesNumber 52 = .ok (.invokevirtual 111, 3) := by decide +kernel
theorem dX7_takesNumber_55 : decode cX7_takesNumber 55 = .ok (.aload_n 0, 1) := by decide +kernel
theorem dX7_takesNumber_56 : decode cX7_takesNumber 56 = .ok (.iload 4, 2) := by decide +kernel
theorem dX7_takesNumber_58 : decode cX7_takesNumber 58 = .ok (.invokevirtual 114, 3) := by decide +kernel
theorem dX7_takesNumber_61 : decode cX7_takesNumber 61 = .ok (.ireturn, 1) := by decide +kernel
set_option maxRecDepth 20000 in
theorem ggX7_readGiver_X7_faults : GoodIn wsX7_readGiver wsX7_faults := goodIn_r _ [6, 7, 37, 38, 39, 40, 41, 42, 43, 44, 45, 46, 47, 48, 49, 50, 51, 52, 53, 54, 55, 56, 57, 58, 59, 60] (by decide +kernel) (by decide +kernel)
set_option maxRecDepth 20000 in
theorem gX7_readGiver_X7_faults : GoodIn wsX7_readGiver (wsV RX7 108 RX7 yX7_faults wsX7_faults) := goodIn_app (goodIn_of _ (by decide +kernel)) ggX7_readGiver_X7_faults
set_option maxRecDepth 20000 in
theorem ggX7_readGiver_X7_nextToken : GoodIn wsX7_readGiver wsX7_nextToken := goodIn_r _ [11, 12, 13, 14, 15, 16, 17, 18, 19, 20, 21, 22, 23, 5, 24, 37, 38, 39, 40, 41, 42, 43, 44, 45, 46, 47, 48, 49, 50, 51, 52, 53, 54, 55, 56, 57, 58, 59, 60] (by decide +kernel) (by decide +kernel)
set_option maxRecDepth 20000 in
theorem gX7_readGiver_X7_nextToken : GoodIn wsX7_readGiver (wsV RX7 111 RX7 yX7_nextToken wsX7_nextToken) := goodIn_app (goodIn_of _ (by decide +kernel)) ggX7_readGiver_X7_nextToken
set_option maxRecDepth 20000 in
theorem ggX7_readGiver_X7_takesNumber : GoodIn wsX7_readGiver wsX7_takesNumber := goodIn_r _ [28, 15, 16, 1, 22, 23, 5, 24, 2, 3, 4, 6, 7, 8, 9, 10, 11, 12, 13, 14, 17, 18, 19, 20, 21, 29, 30, 31, 32, 33, 34, 35, 36, 37, 38, 39, 40, 41, 42, 43, 44, 45, 46, 47, 48, 49, 50, 51, 52, 53, 54, 55, 56, 57, 58, 59, 60] (by decide +kernel) (by decide +kernel)
set_option maxRecDepth 20000 in
theorem gX7_readGiver_X7_takesNumber : GoodIn wsX7_readGiver (wsV RX7 117 RX7 yX7_takesNumber wsX7_takesNumber) := goodIn_app (goodIn_of _ (by decide +kernel)) ggX7_readGiver_X7_takesNumber
theorem dX7_readGiver_0 : decode cX7_readGiver 0 = .ok (.aload_n 0, 1) := by decide +kernel
theorem dX7_readGiver_1 : decode cX7_readGiver 1 = .ok (.getfield 28, 3) := by decide +kernel
theorem dX7_readGiver_4 : decode cX7_readGiver 4 = .ok (.iconst 2, 1) := by decide +kernel
theorem dX7_readGiver_5 : decode cX7_readGiver 5 = .ok (.iaload, 1) := by decide +kernel
theorem dX7_readGiver_6 : decode cX7_readGiver 6 = .ok (.iconst 4, 1) := by decide +kernel
theorem dX7_readGiver_7 : decode cX7_readGiver 7 = .ok (.if_icmp .eq 12, 3) := by decide +kernel
theorem dX7_readGiver_10 : decode cX7_readGiver 10 = .ok (.aload_n 0, 1) := by decide +kernel
theorem dX7_readGiver_11 : decode cX7_readGiver 11 = .ok (.getfield 28, 3) := by decide +kernel
theorem dX7_readGiver_14 : decode cX7_readGiver 14 = .ok (.iconst 3, 1) := by decide +kernel
theorem dX7_readGiver_15 : decode cX7_readGiver 15 = .ok (.iaload, 1) := by decide +kernel
theorem dX7_readGiver_16 : decode cX7_readGiver 16 = .ok (.ifCond .le 22, 3) := by decide +kernel
theorem dX7_readGiver_19 : decode cX7_readGiver 19 = .ok (.aload_n 0, 1) := by decide +kernel
theorem dX7_readGiver_20 : decode cX7_readGiver 20 = .ok (.aload_n 0, 1) := by decide +kernel
theorem dX7_readGiver_21 : decode cX7_readGiver 21 = .ok (.getfield 28, 3) := by decide +kernel
theorem dX7_readGiver_24 : decode cX7_readGiver 24 = .ok (.iconst 3, 1) := by decide +kernel
theorem dX7_readGiver_25 : decode cX7_readGiver 25 = .ok (.iaload, 1) := by decide +kernel
theorem dX7_readGiver_26 : decode cX7_readGiver 26 = .ok (.ifCond .le 7, 3) := by decide +kernel
theorem dX7_readGiver_29 : decode cX7_readGiver 29 = .ok (.iconst 1, 1) := by decide +kernel
theorem dX7_readGiver_30 : decode cX7_readGiver 30 = .ok (.goto 4, 3) := by decide +kernel
theorem dX7_readGiver_33 : decode cX7_readGiver 33 = .ok (.iconst 3, 1) := by decide +kernel
theorem dX7_readGiver_34 : decode cX7_readGiver 34 = .ok (.invokevirtual 108, 3) := by decide +kernel
theorem dX7_readGiver_37 : decode cX7_readGiver 37 = .ok (.ireturn, 1) := by decide +kernel
theorem dX7_readGiver_38 : decode cX7_readGiver 38 = .ok (.aload_n 0, 1) := by decide +kernel
theorem dX7_readGiver_39 : decode cX7_readGiver 39 = .ok (.invokevirtual 111, 3) := by decide +kernel
theorem dX7_readGiver_42 : decode cX7_readGiver 42 = .ok (.aload_n 0, 1) := by decide +kernel
theorem dX7_readGiver_43 : decode cX7_readGiver 43 = .ok (.getfield 28, 3) := by decide +kernel
theorem dX7_readGiver_46 : decode cX7_readGiver 46 = .ok (.iconst 2, 1) := by decide +kernel
theorem dX7_readGiver_47 : decode cX7_readGiver 47 = .ok (.dup2, 1) := by decide +kernel
theorem dX7_readGiver_48 : decode cX7_readGiver 48 = .ok (.iaload, 1) := by decide +kernel
theorem dX7_readGiver_49 : decode cX7_readGiver 49 = .ok (.iconst 1, 1) := by decide +kernel
theorem dX7_readGiver_50 : decode cX7_readGiver 50 = .ok (.iadd, 1) := by decide +kernel
theorem dX7_readGiver_51 : decode cX7_readGiver 51 = .ok (.iastore, 1) := by decide +kernel
theorem dX7_readGiver_52 : decode cX7_readGiver 52 = .ok (.aload_n 0, 1) := by decide +kernel
theorem dX7_readGiver_53 : decode cX7_readGiver 53 = .ok (.iconst 0, 1) := by decide +kernel
theorem dX7_readGiver_54 : decode cX7_readGiver 54 = .ok (.bipush 10, 2) := by decide +kernel
theorem dX7_readGiver_56 : decode cX7_readGiver 56 = .ok (.iconst 5, 1) := by decide +kernel
theorem dX7_readGiver_57 : decode cX7_readGiver 57 = .ok (.aload_n 0, 1) := by decide +kernel
theorem dX7_readGiver_58 : decode cX7_readGiver 58 = .ok (.getfield 28, 3) := by decide +kernel
theorem dX7_readGiver_61 : decode cX7_readGiver 61 = .ok (.iconst 2, 1) := by decide +kernel
theorem dX7_readGiver_62 : decode cX7_readGiver 62 = .ok (.iaload, 1) := by decide +kernel
theorem dX7_readGiver_63 : decode cX7_readGiver 63 = .ok (.iadd, 1) := by decide +kernel
theorem dX7_readGiver_64 : decode cX7_readGiver 64 = .ok (.iconst 1, 1) := by decide +kernel
theorem dX7_readGiver_65 : decode cX7_readGiver 65 = .ok (.isub, 1) := by decide +kernel
theorem dX7_readGiver_66 : decode cX7_readGiver 66 = .ok (.bipush 59, 2) := by decide +kernel
theorem dX7_readGiver_68 : decode cX7_readGiver 68 = .ok (.invokevirtual 117, 3) := by decide +kernel
theorem dX7_readGiver_71 : decode cX7_readGiver 71 = .ok (.ireturn, 1) := by decide +kernel
set_option maxRecDepth 20000 in
theorem ggX7_readPromise_X7_faults : GoodIn wsX7_readPromise wsX7_faults := goodIn_r _ [6, 7, 37, 38, 39, 40, 41, 42, 43, 44, 45, 46, 47, 48, 49, 50, 51, 52, 53, 54, 55, 56, 57, 58, 59, 60] (by decide +kernel) (by decide +kernel)
set_option maxRecDepth 20000 in
theorem gX7_readPromise_X7_faults : GoodIn wsX7_readPromise (wsV RX7 108 RX7 yX7_faults wsX7_faults) := goodIn_app (goodIn_of _ (by decide +kernel)) ggX7_readPromise_X7_faults
set_option maxRecDepth 20000 in
theorem ggX7_readPromise_X7_nextToken : GoodIn wsX7_readPromise wsX7_nextToken := goodIn_r _ [11, 12, 13, 14, 15, 16, 17, 18, 19, 20, 21, 22, 23, 5, 24, 37, 38, 39, 40, 41, 42, 43, 44, 45, 46, 47, 48, 49, 50, 51, 52, 53, 54, 55, 56, 57, 58, 59, 60] (by decide +kernel) (by decide +kernel)
set_option maxRecDepth 20000 in
theorem gX7_readPromise_X7_nextToken : GoodIn wsX7_readPromise (wsV RX7 111 RX7 yX7_nextToken wsX7_nextToken) := goodIn_app (goodIn_of _ (by decide +kernel)) ggX7_readPromise_X7_nextToken
set_option maxRecDepth 20000 in
theorem ggX7_readPromise_X7_takesNumber : GoodIn wsX7_readPromise wsX7_takesNumber := goodIn_r _ [28, 15, 16, 1, 22, 23, 5, 24, 2, 3, 4, 6, 7, 8, 9, 10, 11, 12, 13, 14, 17, 18, 19, 20, 21, 29, 30, 31, 32, 33, 34, 35, 36, 37, 38, 39, 40, 41, 42, 43, 44, 45, 46, 47, 48, 49, 50, 51, 52, 53, 54, 55, 56, 57, 58, 59, 60] (by decide +kernel) (by decide +kernel)
set_option maxRecDepth 20000 in
theorem gX7_readPromise_X7_takesNumber : GoodIn wsX7_readPromise (wsV RX7 117 RX7 yX7_takesNumber wsX7_takesNumber) := goodIn_app (goodIn_of _ (by decide +kernel)) ggX7_readPromise_X7_takesNumber
theorem dX7_readPromise_0 : decode cX7_readPromise 0 = .ok (.aload_n 0, 1) := by decide +kernel
theorem dX7_readPromise_1 : decode cX7_readPromise 1 = .ok (.getfield 28, 3) := by decide +kernel
theorem dX7_readPromise_4 : decode cX7_readPromise 4 = .ok (.iconst 3, 1) := by decide +kernel
theorem dX7_readPromise_5 : decode cX7_readPromise 5 = .ok (.iaload, 1) := by decide +kernel
theorem dX7_readPromise_6 : decode cX7_readPromise 6 = .ok (.istore_n 2, 1) := by decide +kernel
theorem dX7_readPromise_7 : decode cX7_readPromise 7 = .ok (.iload_n 2, 1) := by decide +kernel
theorem dX7_readPromise_8 : decode cX7_readPromise 8 = .ok (.bipush 8, 2) := by decide +kernel
theorem dX7_readPromise_10 : decode cX7_readPromise 10 = .ok (.if_icmp .ne 9, 3) := by decide +kernel
theorem dX7_readPromise_13 : decode cX7_readPromise 13 = .ok (.aload_n 0, 1) := by decide +kernel
theorem dX7_readPromise_14 : decode cX7_readPromise 14 = .ok (.iconst 3, 1) := by decide +kernel
theorem dX7_readPromise_15 : decode cX7_readPromise 15 = .ok (.invokevirtual 108, 3) := by decide +kernel
theorem dX7_readPromise_18 : decode cX7_readPromise 18 = .ok (.ireturn, 1) := by decide +kernel
theorem dX7_readPromise_19 : decode cX7_readPromise 19 = .ok (.aload_n 0, 1) := by decide +kernel
theorem dX7_readPromise_20 : decode cX7_readPromise 20 = .ok (.invokevirtual 111, 3) := by decide +kernel
theorem dX7_readPromise_23 : decode cX7_readPromise 23 = .ok (.aload_n 0, 1) := by decide +kernel
theorem dX7_readPromise_24 : decode cX7_readPromise 24 = .ok (.getfield 28, 3) := by decide +kernel
theorem dX7_readPromise_27 : decode cX7_readPromise 27 = .ok (.bipush 9, 2) := by decide +kernel
theorem dX7_readPromise_29 : decode cX7_readPromise 29 = .ok (.iload_n 2, 1) := by decide +kernel
theorem dX7_readPromise_30 : decode cX7_readPromise 30 = .ok (.iadd, 1) := by decide +kernel
theorem dX7_readPromise_31 : decode cX7_readPromise 31 = .ok (.iload_n 1, 1) := by decide +kernel
theorem dX7_readPromise_32 : decode cX7_readPromise 32 = .ok (.iastore, 1) := by decide +kernel
theorem dX7_readPromise_33 : decode cX7_readPromise 33 = .ok (.aload_n 0, 1) := by decide +kernel
theorem dX7_readPromise_34 : decode cX7_readPromise 34 = .ok (.getfield 28, 3) := by decide +kernel
theorem dX7_readPromise_37 : decode cX7_readPromise 37 = .ok (.iconst 3, 1) := by decide +kernel
theorem dX7_readPromise_38 : decode cX7_readPromise 38 = .ok (.dup2, 1) := by decide +kernel
theorem dX7_readPromise_39 : decode cX7_readPromise 39 = .ok (.iaload, 1) := by decide +kernel
theorem dX7_readPromise_40 : decode cX7_readPromise 40 = .ok (.iconst 1, 1) := by decide +kernel
theorem dX7_readPromise_41 : decode cX7_readPromise 41 = .ok (.iadd, 1) := by decide +kernel
theorem dX7_readPromise_42 : decode cX7_readPromise 42 = .ok (.iastore, 1) := by decide +kernel
theorem dX7_readPromise_43 : decode cX7_readPromise 43 = .ok (.aload_n 0, 1) := by decide +kernel
theorem dX7_readPromise_44 : decode cX7_readPromise 44 = .ok (.iconst 0, 1) := by decide +kernel
theorem dX7_readPromise_45 : decode cX7_readPromise 45 = .ok (.aload_n 0, 1) := by decide +kernel
theorem dX7_readPromise_46 : decode cX7_readPromise 46 = .ok (.getfield 28, 3) := by decide +kernel
theorem dX7_readPromise_49 : decode cX7_readPromise 49 = .ok (.iconst 2, 1) := by decide +kernel
theorem dX7_readPromise_50 : decode cX7_readPromise 50 = .ok (.iaload, 1) := by decide +kernel
theorem dX7_readPromise_51 : decode cX7_readPromise 51 = .ok (.iconst 1, 1) := by decide +kernel
theorem dX7_readPromise_52 : decode cX7_readPromise 52 = .ok (.isub, 1) := by decide +kernel
theorem dX7_readPromise_53 : decode cX7_readPromise 53 = .ok (.bipush 17, 2) := by decide +kernel
theorem dX7_readPromise_55 : decode cX7_readPromise 55 = .ok (.iload_n 2, 1) := by decide +kernel
theorem dX7_readPromise_56 : decode cX7_readPromise 56 = .ok (.iadd, 1) := by decide +kernel
theorem dX7_readPromise_57 : decode cX7_readPromise 57 = .ok (.bipush 44, 2) := by decide +kernel
theorem dX7_readPromise_59 : decode cX7_readPromise 59 = .ok (.invokevirtual 117, 3) := by decide +kernel
theorem dX7_readPromise_62 : decode cX7_readPromise 62 = .ok (.ifCond .eq 54, 3) := by decide +kernel
theorem dX7_readPromise_65 : decode cX7_readPromise 65 = .ok (.aload_n 0, 1) := by decide +kernel
theorem dX7_readPromise_66 : decode cX7_readPromise 66 = .ok (.iconst 0, 1) := by decide +kernel
theorem dX7_readPromise_67 : decode cX7_readPromise 67 = .ok (.iconst 5, 1) := by decide +kernel
theorem dX7_readPromise_68 : decode cX7_readPromise 68 = .ok (.bipush 25, 2) := by decide +kernel
theorem dX7_readPromise_70 : decode cX7_readPromise 70 = .ok (.iload_n 2, 1) := by decide +kernel
theorem dX7_readPromise_71 : decode cX7_readPromise 71 = .ok (.iadd, 1) := by decide +kernel
theorem dX7_readPromise_72 : decode cX7_readPromise 72 = .ok (.bipush 44, 2) := by decide +kernel
theorem dX7_readPromise_74 : decode cX7_readPromise 74 = .ok (.invokevirtual 117, 3) := by decide +kernel
theorem dX7_readPromise_77 : decode cX7_readPromise 77 = .ok (.ifCond .eq 39, 3) := by decide +kernel
theorem dX7_readPromise_80 : decode cX7_readPromise 80 = .ok (.aload_n 0, 1) := by decide +kernel
theorem dX7_readPromise_81 : decode cX7_readPromise 81 = .ok (.iconst 0, 1) := by decide +kernel
theorem dX7_readPromise_82 : decode cX7_readPromise 82 = .ok (.bipush 9, 2) := by decide +kernel
theorem dX7_readPromise_84 : decode cX7_readPromise 84 = .ok (.bipush 33, 2) := by decide +kernel
theorem dX7_readPromise_86 : decode cX7_readPromise 86 = .ok (.iload_n 2, 1) := by decide +kernel
theorem dX7_readPromise_87 : decode cX7_readPromise 87 = .ok (.iadd, 1) := by decide +kernel
theorem dX7_readPromise_88 : decode cX7_readPromise 88 = .ok (.bipush 44, 2) := by decide +kernel
theorem dX7_readPromise_90 : decode cX7_readPromise 90 = .ok (.invokevirtual 117, 3) := by decide +kernel
theorem dX7_readPromise_93 : decode cX7_readPromise 93 = .ok (.ifCond .eq 23, 3) := by decide +kernel
theorem dX7_readPromise_96 : decode cX7_readPromise 96 = .ok (.aload_n 0, 1) := by decide +kernel
theorem dX7_readPromise_97 : decode cX7_readPromise 97 = .ok (.iconst 0, 1) := by decide +kernel
theorem dX7_readPromise_98 : decode cX7_readPromise 98 = .ok (.bipush 20, 2) := by decide +kernel
theorem dX7_readPromise_100 : decode cX7_readPromise 100 = .ok (.bipush 41, 2) := by decide +kernel
theorem dX7_readPromise_102 : decode cX7_readPromise 102 = .ok (.iload_n 2, 1) := by decide +kernel
theorem dX7_readPromise_103 : decode cX7_readPromise 103 = .ok (.iadd, 1) := by decide +kernel
theorem dX7_readPromise_104 : decode cX7_readPromise 104 = .ok (.bipush 59, 2) := by decide +kernel
theorem dX7_readPromise_106 : decode cX7_readPromise 106 = .ok (.invokevirtual 117, 3) := by decide +kernel
theorem dX7_readPromise_109 : decode cX7_readPromise 109 = .ok (.ifCond .eq 7, 3) := by decide +kernel
theorem dX7_readPromise_112 : decode cX7_readPromise 112 = .ok (.iconst 1, 1) := by decide +kernel
theorem dX7_readPromise_113 : decode cX7_readPromise 113 = .ok (.goto 4, 3) := by decide +kernel
theorem dX7_readPromise_116 : decode cX7_readPromise 116 = .ok (.iconst 0, 1) := by decide +kernel
theorem dX7_readPromise_117 : decode cX7_readPromise 117 = .ok (.ireturn, 1) := by decide +kernel
set_option maxRecDepth 20000 in
theorem ggX7_readScales_X7_nextToken : GoodIn wsX7_readScales wsX7_nextToken := goodIn_r _ [8, 1, 9, 10, 3, 11, 12, 13, 14, 15, 16, 17, 18, 7, 19, 45, 46, 47, 48, 49, 50, 51, 52, 53, 54, 55, 56, 57, 58, 59, 60, 61, 62, 63, 64, 65, 66, 67, 68] (by decide +kernel) (by decide +kernel)
set_option maxRecDepth 20000 in
theorem gX7_readScales_X7_nextToken : GoodIn wsX7_readScales (wsV RX7 111 RX7 yX7_nextToken wsX7_nextToken) := goodIn_app (goodIn_of _ (by decide +kernel)) ggX7_readScales_X7_nextToken
set_option maxRecDepth 20000 in
theorem ggX7_readScales_X7_takes : GoodIn wsX7_readScales wsX7_takes := goodIn_r _ [23, 24, 25, 26, 7, 27, 3, 11, 28, 29, 30, 31, 32, 4, 5, 6, 8, 1, 9, 10, 12, 13, 14, 15, 16, 17, 18, 19, 45, 46, 47, 48, 49, 50, 51, 52, 53, 54, 55, 56, 57, 58, 59, 60, 61, 62, 63, 64, 65, 66, 67, 68] (by decide +kernel) (by decide +kernel)
set_option maxRecDepth 20000 in
theorem gX7_readScales_X7_takes : GoodIn wsX7_readScales (wsV RX7 114 RX7 yX7_takes wsX7_takes) := goodIn_app (goodIn_of _ (by decide +kernel)) ggX7_readScales_X7_takes
set_option maxRecDepth 20000 in
theorem ggX7_readScales_X7_takesNumber : GoodIn wsX7_readScales wsX7_takesNumber := goodIn_r _ [36, 3, 11, 2, 17, 18, 7, 19, 28, 29, 30, 31, 32, 4, 5, 6, 8, 1, 9, 10, 12, 13, 14, 15, 16, 20, 21, 22, 23, 24, 25, 26, 27, 45, 46, 47, 48, 49, 50, 51, 52, 53, 54, 55, 56, 57, 58, 59, 60, 61, 62, 63, 64, 65, 66, 67, 68] (by decide +kernel) (by decide +kernel)
set_option maxRecDepth 20000 in
theorem gX7_readScales_X7_takesNumber : GoodIn wsX7_readScales (wsV RX7 117 RX7 yX7_takesNumber wsX7_takesNumber) := goodIn_app (goodIn_of _ (by decide +kernel)) ggX7_readScales_X7_takesNumber
set_option maxRecDepth 20000 in
theorem ggX7_readScales_X7_isLetter : GoodIn wsX7_readScales wsX7_isLetter := goodIn_r _ [27, 3, 11, 45, 46, 47, 48, 49, 50, 51, 52, 53, 54, 55, 56, 57, 58, 59, 60, 61, 62, 63, 64, 65, 66, 67, 68] (by decide +kernel) (by decide +kernel)
set_option maxRecDepth 20000 in
theorem gX7_readScales_X7_isLetter : GoodIn wsX7_readScales (wsV RX7 105 RX7 yX7_isLetter wsX7_isLetter) := goodIn_app (goodIn_of _ (by decide +kernel)) ggX7_readScales_X7_isLetter
set_option maxRecDepth 20000 in
theorem ggX7_readScales_X7_readPromise : GoodIn wsX7_readScales wsX7_readPromise := goodIn_r _ [40, 2, 28, 29, 30, 7, 31, 32, 4, 5, 6, 8, 1, 9, 10, 3, 11, 12, 13, 14, 15, 16, 17, 18, 19, 33, 34, 35, 36, 20, 21, 22, 23, 24, 25, 26, 27, 45, 46, 47, 48, 49, 50, 51, 52, 53, 54, 55, 56, 57, 58, 59, 60, 61, 62, 63, 64, 65, 66, 67, 68] (by decide +kernel) (by decide +kernel)
set_option maxRecDepth 20000 in
theorem gX7_readScales_X7_readPromise : GoodIn wsX7_readScales (wsV RX7 121 RX7 yX7_readPromise wsX7_readPromise) := goodIn_app (goodIn_of _ (by decide +kernel)) ggX7_readScales_X7_readPromise
set_option maxRecDepth 20000 in
theorem ggX7_readScales_X7_readGiver : GoodIn wsX7_readScales wsX7_readGiver := goodIn_r _ [44, 2, 28, 29, 30, 7, 31, 32, 4, 5, 6, 8, 1, 9, 10, 3, 11, 12, 13, 14, 15, 16, 17, 18, 19, 33, 34, 35, 36, 20, 21, 22, 23, 24, 25, 26, 27, 45, 46, 47, 48, 49, 50, 51, 52, 53, 54, 55, 56, 57, 58, 59, 60, 61, 62, 63, 64, 65, 66, 67, 68] (by decide +kernel) (by decide +kernel)
set_option maxRecDepth 20000 in
theorem gX7_readScales_X7_readGiver : GoodIn wsX7_readScales (wsV RX7 124 RX7 yX7_readGiver wsX7_readGiver) := goodIn_app (goodIn_of _ (by decide +kernel)) ggX7_readScales_X7_readGiver
set_option maxRecDepth 20000 in
theorem ggX7_readScales_X7_faults : GoodIn wsX7_readScales wsX7_faults := goodIn_r _ [31, 32, 45, 46, 47, 48, 49, 50, 51, 52, 53, 54, 55, 56, 57, 58, 59, 60, 61, 62, 63, 64, 65, 66, 67, 68] (by decide +kernel) (by decide +kernel)
set_option maxRecDepth 20000 in
theorem gX7_readScales_X7_faults : GoodIn wsX7_readScales (wsV RX7 108 RX7 yX7_faults wsX7_faults) := goodIn_app (goodIn_of _ (by decide +kernel)) ggX7_readScales_X7_faults
theorem dX7_readScales_0 : decode cX7_readScales 0 = .ok (.aload_n 0, 1) := by decide +kernel
theorem dX7_readScales_1 : decode cX7_readScales 1 = .ok (.iconst 0, 1) := by decide +kernel
theorem dX7_readScales_2 : decode cX7_readScales 2 = .ok (.putfield 82, 3) := by decide +kernel
theorem dX7_readScales_5 : decode cX7_readScales 5 = .ok (.iconst 0, 1) := by decide +kernel
theorem dX7_readScales_6 : decode cX7_readScales 6 = .ok (.istore_n 1, 1) := by decide +kernel
theorem dX7_readScales_7 : decode cX7_readScales 7 = .ok (.iload_n 1, 1) := by decide +kernel
theorem dX7_readScales_8 : decode cX7_readScales 8 = .ok (.bipush 57, 2) := by decide +kernel
theorem dX7_readScales_10 : decode cX7_readScales 10 = .ok (.if_icmp .ge 16, 3) := by decide +kernel
theorem dX7_readScales_13 : decode cX7_readScales 13 = .ok (.aload_n 0, 1) := by decide +kernel
theorem dX7_readScales_14 : decode cX7_readScales 14 = .ok (.getfield 28, 3) := by decide +kernel
theorem dX7_readScales_17 : decode cX7_readScales 17 = .ok (.iload_n 1, 1) := by decide +kernel
theorem dX7_readScales_18 : decode cX7_readScales 18 = .ok (.iconst 0, 1) := by decide +kernel
theorem dX7_readScales_19 : decode cX7_readScales 19 = .ok (.iastore, 1) := by decide +kernel
theorem dX7_readScales_20 : decode cX7_readScales 20 = .ok (.iinc 1 1, 3) := by decide +kernel
theorem dX7_readScales_23 : decode cX7_readScales 23 = .ok (.goto (-16), 3) := by decide +kernel
theorem dX7_readScales_26 : decode cX7_readScales 26 = .ok (.aload_n 0, 1) := by decide +kernel
theorem dX7_readScales_27 : decode cX7_readScales 27 = .ok (.invokevirtual 111, 3) := by decide +kernel
theorem dX7_readScales_30 : decode cX7_readScales 30 = .ok (.aload_n 0, 1) := by decide +kernel
theorem dX7_readScales_31 : decode cX7_readScales 31 = .ok (.bipush 115, 2) := by decide +kernel
theorem dX7_readScales_33 : decode cX7_readScales 33 = .ok (.invokevirtual 114, 3) := by decide +kernel
theorem dX7_readScales_36 : decode cX7_readScales 36 = .ok (.ifCond .eq 28, 3) := by decide +kernel
theorem dX7_readScales_39 : decode cX7_readScales 39 = .ok (.aload_n 0, 1) := by decide +kernel
theorem dX7_readScales_40 : decode cX7_readScales 40 = .ok (.iconst 0, 1) := by decide +kernel
theorem dX7_readScales_41 : decode cX7_readScales 41 = .ok (.bipush 9, 2) := by decide +kernel
theorem dX7_readScales_43 : decode cX7_readScales 43 = .ok (.iconst 0, 1) := by decide +kernel
theorem dX7_readScales_44 : decode cX7_readScales 44 = .ok (.bipush 44, 2) := by decide +kernel
theorem dX7_readScales_46 : decode cX7_readScales 46 = .ok (.invokevirtual 117, 3) := by decide +kernel
theorem dX7_readScales_49 : decode cX7_readScales 49 = .ok (.ifCond .eq 15, 3) := by decide +kernel
theorem dX7_readScales_52 : decode cX7_readScales 52 = .ok (.aload_n 0, 1) := by decide +kernel
theorem dX7_readScales_53 : decode cX7_readScales 53 = .ok (.iconst 1, 1) := by decide +kernel
theorem dX7_readScales_54 : decode cX7_readScales 54 = .ok (.iconst 5, 1) := by decide +kernel
theorem dX7_readScales_55 : decode cX7_readScales 55 = .ok (.iconst 1, 1) := by decide +kernel
theorem dX7_readScales_56 : decode cX7_readScales 56 = .ok (.bipush 59, 2) := by decide +kernel
theorem dX7_readScales_58 : decode cX7_readScales 58 = .ok (.invokevirtual 117, 3) := by decide +kernel
theorem dX7_readScales_61 : decode cX7_readScales 61 = .ok (.ifCond .ne 5, 3) := by decide +kernel
theorem dX7_readScales_64 : decode cX7_readScales 64 = .ok (.iconst 0, 1) := by decide +kernel
theorem dX7_readScales_65 : decode cX7_readScales 65 = .ok (.ireturn, 1) := by decide +kernel
theorem dX7_readScales_66 : decode cX7_readScales 66 = .ok (.iconst 1, 1) := by decide +kernel
theorem dX7_readScales_67 : decode cX7_readScales 67 = .ok (.istore_n 1, 1) := by decide +kernel
theorem dX7_readScales_68 : decode cX7_readScales 68 = .ok (.iload_n 1, 1) := by decide +kernel
theorem dX7_readScales_69 : decode cX7_readScales 69 = .ok (.ifCond .eq 115, 3) := by decide +kernel
theorem dX7_readScales_72 : decode cX7_readScales 72 = .ok (.aload_n 0, 1) := by decide +kernel
theorem dX7_readScales_73 : decode cX7_readScales 73 = .ok (.getfield 88, 3) := by decide +kernel
theorem dX7_readScales_76 : decode cX7_readScales 76 = .ok (.iconst 3, 1) := by decide +kernel
theorem dX7_readScales_77 : decode cX7_readScales 77 = .ok (.if_icmp .eq 107, 3) := by decide +kernel
theorem dX7_readScales_80 : decode cX7_readScales 80 = .ok (.aload_n 0, 1) := by decide +kernel
theorem dX7_readScales_81 : decode cX7_readScales 81 = .ok (.bipush 112, 2) := by decide +kernel
theorem dX7_readScales_83 : decode cX7_readScales 83 = .ok (.invokevirtual 105, 3) := by decide +kernel
theorem dX7_readScales_86 : decode cX7_readScales 86 = .ok (.ifCond .eq 7, 3) := by decide +kernel
theorem dX7_readScales_89 : decode cX7_readScales 89 = .ok (.iconst 1, 1) := by decide +kernel
theorem dX7_readScales_90 : decode cX7_readScales 90 = .ok (.goto 56, 3) := by decide +kernel
theorem dX7_readScales_93 : decode cX7_readScales 93 = .ok (.aload_n 0, 1) := by decide +kernel
theorem dX7_readScales_94 : decode cX7_readScales 94 = .ok (.bipush 105, 2) := by decide +kernel
theorem dX7_readScales_96 : decode cX7_readScales 96 = .ok (.invokevirtual 105, 3) := by decide +kernel
theorem dX7_readScales_99 : decode cX7_readScales 99 = .ok (.ifCond .eq 7, 3) := by decide +kernel
theorem dX7_readScales_102 : decode cX7_readScales 102 = .ok (.iconst 2, 1) := by decide +kernel
theorem dX7_readScales_103 : decode cX7_readScales 103 = .ok (.goto 43, 3) := by decide +kernel
theorem dX7_readScales_106 : decode cX7_readScales 106 = .ok (.aload_n 0, 1) := by decide +kernel
theorem dX7_readScales_107 : decode cX7_readScales 107 = .ok (.bipush 116, 2) := by decide +kernel
theorem dX7_readScales_109 : decode cX7_readScales 109 = .ok (.invokevirtual 105, 3) := by decide +kernel
theorem dX7_readScales_112 : decode cX7_readScales 112 = .ok (.ifCond .eq 7, 3) := by decide +kernel
theorem dX7_readScales_115 : decode cX7_readScales 115 = .ok (.iconst 3, 1) := by decide +kernel
theorem dX7_readScales_116 : decode cX7_readScales 116 = .ok (.goto 30, 3) := by decide +kernel
theorem dX7_readScales_119 : decode cX7_readScales 119 = .ok (.aload_n 0, 1) := by decide +kernel
theorem dX7_readScales_120 : decode cX7_readScales 120 = .ok (.bipush 111, 2) := by decide +kernel
theorem dX7_readScales_122 : decode cX7_readScales 122 = .ok (.invokevirtual 105, 3) := by decide +kernel
theorem dX7_readScales_125 : decode cX7_readScales 125 = .ok (.ifCond .eq 7, 3) := by decide +kernel
theorem dX7_readScales_128 : decode cX7_readScales 128 = .ok (.iconst 4, 1) := by decide +kernel
theorem dX7_readScales_129 : decode cX7_readScales 129 = .ok (.goto 17, 3) := by decide +kernel
theorem dX7_readScales_132 : decode cX7_readScales 132 = .ok (.aload_n 0, 1) := by decide +kernel
theorem dX7_readScales_133 : decode cX7_readScales 133 = .ok (.bipush 109, 2) := by decide +kernel
theorem dX7_readScales_135 : decode cX7_readScales 135 = .ok (.invokevirtual 105, 3) := by decide +kernel
theorem dX7_readScales_138 : decode cX7_readScales 138 = .ok (.ifCond .eq 7, 3) := by decide +kernel
theorem dX7_readScales_141 : decode cX7_readScales 141 = .ok (.iconst 5, 1) := by decide +kernel
theorem dX7_readScales_142 : decode cX7_readScales 142 = .ok (.goto 4, 3) := by decide +kernel
theorem dX7_readScales_145 : decode cX7_readScales 145 = .ok (.iconst 0, 1) := by decide +kernel
theorem dX7_readScales_146 : decode cX7_readScales 146 = .ok (.istore_n 2, 1) := by decide +kernel
theorem dX7_readScales_147 : decode cX7_readScales 147 = .ok (.iload_n 2, 1) := by decide +kernel
theorem dX7_readScales_148 : decode cX7_readScales 148 = .ok (.ifCond .le 11, 3) := by decide +kernel
theorem dX7_readScales_151 : decode cX7_readScales 151 = .ok (.aload_n 0, 1) := by decide +kernel
theorem dX7_readScales_152 : decode cX7_readScales 152 = .ok (.iload_n 2, 1) := by decide +kernel
theorem dX7_readScales_153 : decode cX7_readScales 153 = .ok (.invokevirtual 121, 3) := by decide +kernel
theorem dX7_readScales_156 : decode cX7_readScales 156 = .ok (.goto 24, 3) := by decide +kernel
theorem dX7_readScales_159 : decode cX7_readScales 159 = .ok (.aload_n 0, 1) := by decide +kernel
theorem dX7_readScales_160 : decode cX7_readScales 160 = .ok (.bipush 103, 2) := by decide +kernel
theorem dX7_readScales_162 : decode cX7_readScales 162 = .ok (.invokevirtual 105, 3) := by decide +kernel
theorem dX7_readScales_165 : decode cX7_readScales 165 = .ok (.ifCond .eq 10, 3) := by decide +kernel
theorem dX7_readScales_168 : decode cX7_readScales 168 = .ok (.aload_n 0, 1) := by decide +kernel
theorem dX7_readScales_169 : decode cX7_readScales 169 = .ok (.invokevirtual 124, 3) := by decide +kernel
theorem dX7_readScales_172 : decode cX7_readScales 172 = .ok (.goto 8, 3) := by decide +kernel
theorem dX7_readScales_175 : decode cX7_readScales 175 = .ok (.aload_n 0, 1) := by decide +kernel
theorem dX7_readScales_176 : decode cX7_readScales 176 = .ok (.iconst 1, 1) := by decide +kernel
theorem dX7_readScales_177 : decode cX7_readScales 177 = .ok (.invokevirtual 108, 3) := by decide +kernel
theorem dX7_readScales_180 : decode cX7_readScales 180 = .ok (.istore_n 1, 1) := by decide +kernel
theorem dX7_readScales_181 : decode cX7_readScales 181 = .ok (.goto (-113), 3) := by decide +kernel
theorem dX7_readScales_184 : decode cX7_readScales 184 = .ok (.iload_n 1, 1) := by decide +kernel
theorem dX7_readScales_185 : decode cX7_readScales 185 = .ok (.ireturn, 1) := by decide +kernel
set_option maxRecDepth 20000 in
theorem ggX7_scales_X7_readScales : GoodIn wsX7_scales wsX7_readScales := goodIn_r _ [14, 15, 7, 16, 17, 18, 19, 13, 20, 5, 1, 21, 22, 23, 24, 25, 26, 27, 28, 29, 30, 31, 32, 33, 34, 35, 36, 37, 38, 39, 40, 41, 2, 42, 43, 44, 45, 46, 47, 48, 49, 50, 51, 52, 53, 54, 55, 56, 57, 58, 59, 60, 61, 62, 63, 64, 65, 66, 67, 68, 69, 70, 71, 72, 73, 74, 75, 76, 77] (by decide +kernel) (by decide +kernel)
set_option maxRecDepth 20000 in
theorem gX7_scales_X7_readScales : GoodIn wsX7_scales (wsV RX7 128 RX7 yX7_readScales wsX7_readScales) := goodIn_app (goodIn_of _ (by decide +kernel)) ggX7_scales_X7_readScales
theorem dX7_scales_0 : decode cX7_scales 0 = .ok (.aload_n 0, 1) := by decide +kernel
theorem dX7_scales_1 : decode cX7_scales 1 = .ok (.invokevirtual 128, 3) := by decide +kernel
theorem dX7_scales_4 : decode cX7_scales 4 = .ok (.istore_n 1, 1) := by decide +kernel
theorem dX7_scales_5 : decode cX7_scales 5 = .ok (.aload_n 0, 1) := by decide +kernel
theorem dX7_scales_6 : decode cX7_scales 6 = .ok (.iconst 0, 1) := by decide +kernel
theorem dX7_scales_7 : decode cX7_scales 7 = .ok (.putfield 78, 3) := by decide +kernel
theorem dX7_scales_10 : decode cX7_scales 10 = .ok (.iload_n 1, 1) := by decide +kernel
theorem dX7_scales_11 : decode cX7_scales 11 = .ok (.ifCond .ne 19, 3) := by decide +kernel
theorem dX7_scales_14 : decode cX7_scales 14 = .ok (.aload_n 0, 1) := by decide +kernel
theorem dX7_scales_15 : decode cX7_scales 15 = .ok (.aload_n 0, 1) := by decide +kernel
theorem dX7_scales_16 : decode cX7_scales 16 = .ok (.getfield 102, 3) := by decide +kernel
theorem dX7_scales_19 : decode cX7_scales 19 = .ok (.putfield 131, 3) := by decide +kernel
theorem dX7_scales_22 : decode cX7_scales 22 = .ok (.ldc 134, 2) := by decide +kernel
theorem dX7_scales_24 : decode cX7_scales 24 = .ok (.aload_n 0, 1) := by decide +kernel
theorem dX7_scales_25 : decode cX7_scales 25 = .ok (.getfield 85, 3) := by decide +kernel
theorem dX7_scales_28 : decode cX7_scales 28 = .ok (.isub, 1) := by decide +kernel
theorem dX7_scales_29 : decode cX7_scales 29 = .ok (.ireturn, 1) := by decide +kernel
theorem dX7_scales_30 : decode cX7_scales 30 = .ok (.iconst 0, 1) := by decide +kernel
theorem dX7_scales_31 : decode cX7_scales 31 = .ok (.istore_n 2, 1) := by decide +kernel
theorem dX7_scales_32 : decode cX7_scales 32 = .ok (.iload_n 2, 1) := by decide +kernel
theorem dX7_scales_33 : decode cX7_scales 33 = .ok (.bipush 57, 2) := by decide +kernel
theorem dX7_scales_35 : decode cX7_scales 35 = .ok (.if_icmp .ge 21, 3) := by decide +kernel
theorem dX7_scales_38 : decode cX7_scales 38 = .ok (.aload_n 0, 1) := by decide +kernel
theorem dX7_scales_39 : decode cX7_scales 39 = .ok (.getfield 19, 3) := by decide +kernel
theorem dX7_scales_42 : decode cX7_scales 42 = .ok (.iload_n 2, 1) := by decide +kernel
theorem dX7_scales_43 : decode cX7_scales 43 = .ok (.aload_n 0, 1) := by decide +kernel
theorem dX7_scales_44 : decode cX7_scales 44 = .ok (.getfield 28, 3) := by decide +kernel
theorem dX7_scales_47 : decode cX7_scales 47 = .ok (.iload_n 2, 1) := by decide +kernel
theorem dX7_scales_48 : decode cX7_scales 48 = .ok (.iaload, 1) := by decide +kernel
theorem dX7_scales_49 : decode cX7_scales 49 = .ok (.iastore, 1) := by decide +kernel
theorem dX7_scales_50 : decode cX7_scales 50 = .ok (.iinc 2 1, 3) := by decide +kernel
theorem dX7_scales_53 : decode cX7_scales 53 = .ok (.goto (-21), 3) := by decide +kernel
theorem dX7_scales_56 : decode cX7_scales 56 = .ok (.aload_n 0, 1) := by decide +kernel
theorem dX7_scales_57 : decode cX7_scales 57 = .ok (.iconst 1, 1) := by decide +kernel
theorem dX7_scales_58 : decode cX7_scales 58 = .ok (.putfield 135, 3) := by decide +kernel
theorem dX7_scales_61 : decode cX7_scales 61 = .ok (.aload_n 0, 1) := by decide +kernel
theorem dX7_scales_62 : decode cX7_scales 62 = .ok (.iconst 0, 1) := by decide +kernel
theorem dX7_scales_63 : decode cX7_scales 63 = .ok (.putfield 139, 3) := by decide +kernel
theorem dX7_scales_66 : decode cX7_scales 66 = .ok (.aload_n 0, 1) := by decide +kernel
theorem dX7_scales_67 : decode cX7_scales 67 = .ok (.getfield 19, 3) := by decide +kernel
theorem dX7_scales_70 : decode cX7_scales 70 = .ok (.iconst 3, 1) := by decide +kernel
theorem dX7_scales_71 : decode cX7_scales 71 = .ok (.iaload, 1) := by decide +kernel
theorem dX7_scales_72 : decode cX7_scales 72 = .ok (.ireturn, 1) := by decide +kernel
theorem dX7_fault_0 : decode cX7_fault 0 = .ok (.aload_n 0, 1) := by decide +kernel
theorem dX7_fault_1 : decode cX7_fault 1 = .ok (.getfield 131, 3) := by decide +kernel
theorem dX7_fault_4 : decode cX7_fault 4 = .ok (.ireturn, 1) := by decide +kernel
set_option maxRecDepth 20000 in
theorem ggX7_isPromise_X7_in : GoodIn wsX7_isPromise wsX7_in := goodIn_r _ [5] (by decide +kernel) (by decide +kernel)
set_option maxRecDepth 20000 in
theorem gX7_isPromise_X7_in : GoodIn wsX7_isPromise (va_wsS RX7 54 yX7_in wsX7_in) := goodIn_app (goodIn_of _ (by decide +kernel)) ggX7_isPromise_X7_in
theorem dX7_isPromise_0 : decode cX7_isPromise 0 = .ok (.iload_n 1, 1) := by decide +kernel
theorem dX7_isPromise_1 : decode cX7_isPromise 1 = .ok (.i2l, 1) := by decide +kernel
theorem dX7_isPromise_2 : decode cX7_isPromise 2 = .ok (.lconst 0, 1) := by decide +kernel
theorem dX7_isPromise_3 : decode cX7_isPromise 3 = .ok (.aload_n 0, 1) := by decide +kernel
theorem dX7_isPromise_4 : decode cX7_isPromise 4 = .ok (.getfield 19, 3) := by decide +kernel
theorem dX7_isPromise_7 : decode cX7_isPromise 7 = .ok (.iconst 3, 1) := by decide +kernel
theorem dX7_isPromise_8 : decode cX7_isPromise 8 = .ok (.iaload, 1) := by decide +kernel
theorem dX7_isPromise_9 : decode cX7_isPromise 9 = .ok (.iconst 1, 1) := by decide +kernel
theorem dX7_isPromise_10 : decode cX7_isPromise 10 = .ok (.isub, 1) := by decide +kernel
theorem dX7_isPromise_11 : decode cX7_isPromise 11 = .ok (.i2l, 1) := by decide +kernel
theorem dX7_isPromise_12 : decode cX7_isPromise 12 = .ok (.invokestatic 54, 3) := by decide +kernel
theorem dX7_isPromise_15 : decode cX7_isPromise 15 = .ok (.ireturn, 1) := by decide +kernel
theorem dX7_isOpen_0 : decode cX7_isOpen 0 = .ok (.aload_n 0, 1) := by decide +kernel
theorem dX7_isOpen_1 : decode cX7_isOpen 1 = .ok (.getfield 19, 3) := by decide +kernel
theorem dX7_isOpen_4 : decode cX7_isOpen 4 = .ok (.bipush 49, 2) := by decide +kernel
theorem dX7_isOpen_6 : decode cX7_isOpen 6 = .ok (.iload_n 1, 1) := by decide +kernel
theorem dX7_isOpen_7 : decode cX7_isOpen 7 = .ok (.iadd, 1) := by decide +kernel
theorem dX7_isOpen_8 : decode cX7_isOpen 8 = .ok (.iaload, 1) := by decide +kernel
theorem dX7_isOpen_9 : decode cX7_isOpen 9 = .ok (.ifCond .ne 7, 3) := by decide +kernel
theorem dX7_isOpen_12 : decode cX7_isOpen 12 = .ok (.iconst 1, 1) := by decide +kernel
theorem dX7_isOpen_13 : decode cX7_isOpen 13 = .ok (.goto 4, 3) := by decide +kernel
theorem dX7_isOpen_16 : decode cX7_isOpen 16 = .ok (.iconst 0, 1) := by decide +kernel
theorem dX7_isOpen_17 : decode cX7_isOpen 17 = .ok (.ireturn, 1) := by decide +kernel
theorem dX7_plainOf_0 : decode cX7_plainOf 0 = .ok (.aload_n 0, 1) := by decide +kernel
theorem dX7_plainOf_1 : decode cX7_plainOf 1 = .ok (.getfield 19, 3) := by decide +kernel
theorem dX7_plainOf_4 : decode cX7_plainOf 4 = .ok (.bipush 41, 2) := by decide +kernel
theorem dX7_plainOf_6 : decode cX7_plainOf 6 = .ok (.iload_n 1, 1) := by decide +kernel
theorem dX7_plainOf_7 : decode cX7_plainOf 7 = .ok (.iadd, 1) := by decide +kernel
theorem dX7_plainOf_8 : decode cX7_plainOf 8 = .ok (.iaload, 1) := by decide +kernel
theorem dX7_plainOf_9 : decode cX7_plainOf 9 = .ok (.aload_n 0, 1) := by decide +kernel
theorem dX7_plainOf_10 : decode cX7_plainOf 10 = .ok (.getfield 19, 3) := by decide +kernel
theorem dX7_plainOf_13 : decode cX7_plainOf 13 = .ok (.iconst 5, 1) := by decide +kernel
theorem dX7_plainOf_14 : decode cX7_plainOf 14 = .ok (.aload_n 0, 1) := by decide +kernel
theorem dX7_plainOf_15 : decode cX7_plainOf 15 = .ok (.getfield 19, 3) := by decide +kernel
theorem dX7_plainOf_18 : decode cX7_plainOf 18 = .ok (.bipush 17, 2) := by decide +kernel
theorem dX7_plainOf_20 : decode cX7_plainOf 20 = .ok (.iload_n 1, 1) := by decide +kernel
theorem dX7_plainOf_21 : decode cX7_plainOf 21 = .ok (.iadd, 1) := by decide +kernel
theorem dX7_plainOf_22 : decode cX7_plainOf 22 = .ok (.iaload, 1) := by decide +kernel
theorem dX7_plainOf_23 : decode cX7_plainOf 23 = .ok (.iadd, 1) := by decide +kernel
theorem dX7_plainOf_24 : decode cX7_plainOf 24 = .ok (.iaload, 1) := by decide +kernel
theorem dX7_plainOf_25 : decode cX7_plainOf 25 = .ok (.imul, 1) := by decide +kernel
theorem dX7_plainOf_26 : decode cX7_plainOf 26 = .ok (.bipush 10, 2) := by decide +kernel
theorem dX7_plainOf_28 : decode cX7_plainOf 28 = .ok (.idiv, 1) := by decide +kernel
theorem dX7_plainOf_29 : decode cX7_plainOf 29 = .ok (.ireturn, 1) := by decide +kernel
set_option maxRecDepth 20000 in
theorem ggX7_weightAs_X7_plainOf : GoodIn wsX7_weightAs wsX7_plainOf := goodIn_r _ [5, 6, 7, 8, 9, 10, 11, 12, 13, 14, 15, 16, 17, 18, 19, 20, 21, 22, 23, 24, 25, 26, 27, 28, 29, 30] (by decide +kernel) (by decide +kernel)
set_option maxRecDepth 20000 in
theorem gX7_weightAs_X7_plainOf : GoodIn wsX7_weightAs (wsV RX7 142 RX7 yX7_plainOf wsX7_plainOf) := goodIn_app (goodIn_of _ (by decide +kernel)) ggX7_weightAs_X7_plainOf
theorem dX7_weightAs_0 : decode cX7_weightAs 0 = .ok (.aload_n 0, 1) := by decide +kernel
theorem dX7_weightAs_1 : decode cX7_weightAs 1 = .ok (.iload_n 1, 1) := by decide +kernel
theorem dX7_weightAs_2 : decode cX7_weightAs 2 = .ok (.invokevirtual 142, 3) := by decide +kernel
theorem dX7_weightAs_5 : decode cX7_weightAs 5 = .ok (.istore 4, 2) := by decide +kernel
theorem dX7_weightAs_7 : decode cX7_weightAs 7 = .ok (.iload_n 2, 1) := by decide +kernel
theorem dX7_weightAs_8 : decode cX7_weightAs 8 = .ok (.iconst 2, 1) := by decide +kernel
theorem dX7_weightAs_9 : decode cX7_weightAs 9 = .ok (.if_icmp .ne 20, 3) := by decide +kernel
theorem dX7_weightAs_12 : decode cX7_weightAs 12 = .ok (.iload_n 1, 1) := by decide +kernel
theorem dX7_weightAs_13 : decode cX7_weightAs 13 = .ok (.ifCond .ne 8, 3) := by decide +kernel
theorem dX7_weightAs_16 : decode cX7_weightAs 16 = .ok (.iload 4, 2) := by decide +kernel
theorem dX7_weightAs_18 : decode cX7_weightAs 18 = .ok (.goto 10, 3) := by decide +kernel
theorem dX7_weightAs_21 : decode cX7_weightAs 21 = .ok (.iload 4, 2) := by decide +kernel
theorem dX7_weightAs_23 : decode cX7_weightAs 23 = .ok (.iload_n 3, 1) := by decide +kernel
theorem dX7_weightAs_24 : decode cX7_weightAs 24 = .ok (.imul, 1) := by decide +kernel
theorem dX7_weightAs_25 : decode cX7_weightAs 25 = .ok (.bipush 20, 2) := by decide +kernel
theorem dX7_weightAs_27 : decode cX7_weightAs 27 = .ok (.idiv, 1) := by decide +kernel
theorem dX7_weightAs_28 : decode cX7_weightAs 28 = .ok (.ireturn, 1) := by decide +kernel
theorem dX7_weightAs_29 : decode cX7_weightAs 29 = .ok (.iload_n 2, 1) := by decide +kernel
theorem dX7_weightAs_30 : decode cX7_weightAs 30 = .ok (.iconst 3, 1) := by decide +kernel
theorem dX7_weightAs_31 : decode cX7_weightAs 31 = .ok (.if_icmp .ne 10, 3) := by decide +kernel
theorem dX7_weightAs_34 : decode cX7_weightAs 34 = .ok (.iload 4, 2) := by decide +kernel
theorem dX7_weightAs_36 : decode cX7_weightAs 36 = .ok (.iconst 1, 1) := by decide +kernel
theorem dX7_weightAs_37 : decode cX7_weightAs 37 = .ok (.iadd, 1) := by decide +kernel
theorem dX7_weightAs_38 : decode cX7_weightAs 38 = .ok (.iconst 2, 1) := by decide +kernel
theorem dX7_weightAs_39 : decode cX7_weightAs 39 = .ok (.idiv, 1) := by decide +kernel
theorem dX7_weightAs_40 : decode cX7_weightAs 40 = .ok (.ireturn, 1) := by decide +kernel
theorem dX7_weightAs_41 : decode cX7_weightAs 41 = .ok (.iload_n 2, 1) := by decide +kernel
theorem dX7_weightAs_42 : decode cX7_weightAs 42 = .ok (.iconst 4, 1) := by decide +kernel
theorem dX7_weightAs_43 : decode cX7_weightAs 43 = .ok (.if_icmp .ne 20, 3) := by decide +kernel
theorem dX7_weightAs_46 : decode cX7_weightAs 46 = .ok (.iload 4, 2) := by decide +kernel
theorem dX7_weightAs_48 : decode cX7_weightAs 48 = .ok (.bipush 10, 2) := by decide +kernel
theorem dX7_weightAs_50 : decode cX7_weightAs 50 = .ok (.if_icmp .le 8, 3) := by decide +kernel
theorem dX7_weightAs_53 : decode cX7_weightAs 53 = .ok (.bipush 20, 2) := by decide +kernel
theorem dX7_weightAs_55 : decode cX7_weightAs 55 = .ok (.goto 7, 3) := by decide +kernel
theorem dX7_weightAs_58 : decode cX7_weightAs 58 = .ok (.iconst 2, 1) := by decide +kernel
theorem dX7_weightAs_59 : decode cX7_weightAs 59 = .ok (.iload 4, 2) := by decide +kernel
theorem dX7_weightAs_61 : decode cX7_weightAs 61 = .ok (.imul, 1) := by decide +kernel
theorem dX7_weightAs_62 : decode cX7_weightAs 62 = .ok (.ireturn, 1) := by decide +kernel
theorem dX7_weightAs_63 : decode cX7_weightAs 63 = .ok (.iload_n 2, 1) := by decide +kernel
theorem dX7_weightAs_64 : decode cX7_weightAs 64 = .ok (.iconst 5, 1) := by decide +kernel
theorem dX7_weightAs_65 : decode cX7_weightAs 65 = .ok (.if_icmp .ne 19, 3) := by decide +kernel
theorem dX7_weightAs_68 : decode cX7_weightAs 68 = .ok (.iload_n 1, 1) := by decide +kernel
theorem dX7_weightAs_69 : decode cX7_weightAs 69 = .ok (.ifCond .ne 8, 3) := by decide +kernel
theorem dX7_weightAs_72 : decode cX7_weightAs 72 = .ok (.bipush 20, 2) := by decide +kernel
theorem dX7_weightAs_74 : decode cX7_weightAs 74 = .ok (.goto 12, 3) := by decide +kernel
theorem dX7_weightAs_77 : decode cX7_weightAs 77 = .ok (.bipush 20, 2) := by decide +kernel
theorem dX7_weightAs_79 : decode cX7_weightAs 79 = .ok (.iload_n 3, 1) := by decide +kernel
theorem dX7_weightAs_80 : decode cX7_weightAs 80 = .ok (.isub, 1) := by decide +kernel
theorem dX7_weightAs_81 : decode cX7_weightAs 81 = .ok (.goto 5, 3) := by decide +kernel
theorem dX7_weightAs_84 : decode cX7_weightAs 84 = .ok (.iload 4, 2) := by decide +kernel
theorem dX7_weightAs_86 : decode cX7_weightAs 86 = .ok (.ireturn, 1) := by decide +kernel
set_option maxRecDepth 20000 in
theorem ggX7_weightOf_X7_isOpen : GoodIn wsX7_weightOf wsX7_isOpen := goodIn_r _ [6, 1, 15, 16, 17, 18, 19, 20, 21, 22, 23, 24, 25, 26, 27, 28, 29, 30, 31, 32, 33, 34, 35, 36, 37, 38] (by decide +kernel) (by decide +kernel)
set_option maxRecDepth 20000 in
theorem gX7_weightOf_X7_isOpen : GoodIn wsX7_weightOf (wsV RX7 145 RX7 yX7_isOpen wsX7_isOpen) := goodIn_app (goodIn_of _ (by decide +kernel)) ggX7_weightOf_X7_isOpen
set_option maxRecDepth 20000 in
theorem ggX7_weightOf_X7_weightAs : GoodIn wsX7_weightOf wsX7_weightAs := goodIn_r _ [10, 11, 12, 13, 5, 14, 1, 15, 16, 17, 18, 19, 20, 21, 22, 23, 24, 25, 26, 27, 28, 29, 30, 31, 32, 33, 34, 35, 36, 37, 38] (by decide +kernel) (by decide +kernel)
set_option maxRecDepth 20000 in
theorem gX7_weightOf_X7_weightAs : GoodIn wsX7_weightOf (wsV RX7 148 RX7 yX7_weightAs wsX7_weightAs) := goodIn_app (goodIn_of _ (by decide +kernel)) ggX7_weightOf_X7_weightAs
theorem dX7_weightOf_0 : decode cX7_weightOf 0 = .ok (.iconst 0, 1) := by decide +kernel
theorem dX7_weightOf_1 : decode cX7_weightOf 1 = .ok (.istore_n 2, 1) := by decide +kernel
theorem dX7_weightOf_2 : decode cX7_weightOf 2 = .ok (.iconst 0, 1) := by decide +kernel
theorem dX7_weightOf_3 : decode cX7_weightOf 3 = .ok (.istore_n 3, 1) := by decide +kernel
theorem dX7_weightOf_4 : decode cX7_weightOf 4 = .ok (.iload_n 3, 1) := by decide +kernel
theorem dX7_weightOf_5 : decode cX7_weightOf 5 = .ok (.iload_n 1, 1) := by decide +kernel
theorem dX7_weightOf_6 : decode cX7_weightOf 6 = .ok (.if_icmp .gt 55, 3) := by decide +kernel
theorem dX7_weightOf_9 : decode cX7_weightOf 9 = .ok (.aload_n 0, 1) := by decide +kernel
theorem dX7_weightOf_10 : decode cX7_weightOf 10 = .ok (.iload_n 3, 1) := by decide +kernel
theorem dX7_weightOf_11 : decode cX7_weightOf 11 = .ok (.invokevirtual 145, 3) := by decide +kernel
theorem dX7_weightOf_14 : decode cX7_weightOf 14 = .ok (.ifCond .eq 21, 3) := by decide +kernel
theorem dX7_weightOf_17 : decode cX7_weightOf 17 = .ok (.aload_n 0, 1) := by decide +kernel
theorem dX7_weightOf_18 : decode cX7_weightOf 18 = .ok (.iload_n 3, 1) := by decide +kernel
theorem dX7_weightOf_19 : decode cX7_weightOf 19 = .ok (.aload_n 0, 1) := by decide +kernel
theorem dX7_weightOf_20 : decode cX7_weightOf 20 = .ok (.getfield 19, 3) := by decide +kernel
theorem dX7_weightOf_23 : decode cX7_weightOf 23 = .ok (.bipush 9, 2) := by decide +kernel
theorem dX7_weightOf_25 : decode cX7_weightOf 25 = .ok (.iload_n 3, 1) := by decide +kernel
theorem dX7_weightOf_26 : decode cX7_weightOf 26 = .ok (.iadd, 1) := by decide +kernel
theorem dX7_weightOf_27 : decode cX7_weightOf 27 = .ok (.iaload, 1) := by decide +kernel
theorem dX7_weightOf_28 : decode cX7_weightOf 28 = .ok (.iload_n 2, 1) := by decide +kernel
theorem dX7_weightOf_29 : decode cX7_weightOf 29 = .ok (.invokevirtual 148, 3) := by decide +kernel
theorem dX7_weightOf_32 : decode cX7_weightOf 32 = .ok (.goto 22, 3) := by decide +kernel
theorem dX7_weightOf_35 : decode cX7_weightOf 35 = .ok (.aload_n 0, 1) := by decide +kernel
theorem dX7_weightOf_36 : decode cX7_weightOf 36 = .ok (.getfield 19, 3) := by decide +kernel
theorem dX7_weightOf_39 : decode cX7_weightOf 39 = .ok (.bipush 49, 2) := by decide +kernel
theorem dX7_weightOf_41 : decode cX7_weightOf 41 = .ok (.iload_n 3, 1) := by decide +kernel
theorem dX7_weightOf_42 : decode cX7_weightOf 42 = .ok (.iadd, 1) := by decide +kernel
theorem dX7_weightOf_43 : decode cX7_weightOf 43 = .ok (.iaload, 1) := by decide +kernel
theorem dX7_weightOf_44 : decode cX7_weightOf 44 = .ok (.iconst 1, 1) := by decide +kernel
theorem dX7_weightOf_45 : decode cX7_weightOf 45 = .ok (.if_icmp .ne 8, 3) := by decide +kernel
theorem dX7_weightOf_48 : decode cX7_weightOf 48 = .ok (.bipush 20, 2) := by decide +kernel
theorem dX7_weightOf_50 : decode cX7_weightOf 50 = .ok (.goto 4, 3) := by decide +kernel
theorem dX7_weightOf_53 : decode cX7_weightOf 53 = .ok (.iconst 0, 1) := by decide +kernel
theorem dX7_weightOf_54 : decode cX7_weightOf 54 = .ok (.istore_n 2, 1) := by decide +kernel
theorem dX7_weightOf_55 : decode cX7_weightOf 55 = .ok (.iinc 3 1, 3) := by decide +kernel
theorem dX7_weightOf_58 : decode cX7_weightOf 58 = .ok (.goto (-54), 3) := by decide +kernel
theorem dX7_weightOf_61 : decode cX7_weightOf 61 = .ok (.iload_n 2, 1) := by decide +kernel
theorem dX7_weightOf_62 : decode cX7_weightOf 62 = .ok (.ireturn, 1) := by decide +kernel
set_option maxRecDepth 20000 in
theorem ggX7_sumOf_X7_has : GoodIn wsX7_sumOf wsX7_has := goodIn_r _ [5] (by decide +kernel) (by decide +kernel)
set_option maxRecDepth 20000 in
theorem gX7_sumOf_X7_has : GoodIn wsX7_sumOf (va_wsS RX7 152 yX7_has wsX7_has) := goodIn_app (goodIn_of _ (by decide +kernel)) ggX7_sumOf_X7_has
set_option maxRecDepth 20000 in
theorem ggX7_sumOf_X7_weightOf : GoodIn wsX7_sumOf wsX7_weightOf := goodIn_r _ [9, 1, 10, 11, 12, 4, 13, 14, 15, 16, 17, 18, 19, 20, 21, 22, 23, 24, 25, 26, 27, 28, 29, 30, 31, 32, 33, 34, 35, 36, 37, 38, 39, 40, 41, 42, 43, 44, 45] (by decide +kernel) (by decide +kernel)
set_option maxRecDepth 20000 in
theorem gX7_sumOf_X7_weightOf : GoodIn wsX7_sumOf (wsV RX7 156 RX7 yX7_weightOf wsX7_weightOf) := goodIn_app (goodIn_of _ (by decide +kernel)) ggX7_sumOf_X7_weightOf
theorem dX7_sumOf_0 : decode cX7_sumOf 0 = .ok (.iconst 0, 1) := by decide +kernel
theorem dX7_sumOf_1 : decode cX7_sumOf 1 = .ok (.istore_n 2, 1) := by decide +kernel
theorem dX7_sumOf_2 : decode cX7_sumOf 2 = .ok (.iconst 0, 1) := by decide +kernel
theorem dX7_sumOf_3 : decode cX7_sumOf 3 = .ok (.istore_n 3, 1) := by decide +kernel
theorem dX7_sumOf_4 : decode cX7_sumOf 4 = .ok (.iload_n 3, 1) := by decide +kernel
theorem dX7_sumOf_5 : decode cX7_sumOf 5 = .ok (.aload_n 0, 1) := by decide +kernel
theorem dX7_sumOf_6 : decode cX7_sumOf 6 = .ok (.getfield 19, 3) := by decide +kernel
theorem dX7_sumOf_9 : decode cX7_sumOf 9 = .ok (.iconst 3, 1) := by decide +kernel
theorem dX7_sumOf_10 : decode cX7_sumOf 10 = .ok (.iaload, 1) := by decide +kernel
theorem dX7_sumOf_11 : decode cX7_sumOf 11 = .ok (.if_icmp .ge 29, 3) := by decide +kernel
theorem dX7_sumOf_14 : decode cX7_sumOf 14 = .ok (.iload_n 2, 1) := by decide +kernel
theorem dX7_sumOf_15 : decode cX7_sumOf 15 = .ok (.iload_n 1, 1) := by decide +kernel
theorem dX7_sumOf_16 : decode cX7_sumOf 16 = .ok (.iload_n 3, 1) := by decide +kernel
theorem dX7_sumOf_17 : decode cX7_sumOf 17 = .ok (.invokestatic 152, 3) := by decide +kernel
theorem dX7_sumOf_20 : decode cX7_sumOf 20 = .ok (.ifCond .eq 11, 3) := by decide +kernel
theorem dX7_sumOf_23 : decode cX7_sumOf 23 = .ok (.aload_n 0, 1) := by decide +kernel
theorem dX7_sumOf_24 : decode cX7_sumOf 24 = .ok (.iload_n 3, 1) := by decide +kernel
theorem dX7_sumOf_25 : decode cX7_sumOf 25 = .ok (.invokevirtual 156, 3) := by decide +kernel
theorem dX7_sumOf_28 : decode cX7_sumOf 28 = .ok (.goto 4, 3) := by decide +kernel
theorem dX7_sumOf_31 : decode cX7_sumOf 31 = .ok (.iconst 0, 1) := by decide +kernel
theorem dX7_sumOf_32 : decode cX7_sumOf 32 = .ok (.iadd, 1) := by decide +kernel
theorem dX7_sumOf_33 : decode cX7_sumOf 33 = .ok (.istore_n 2, 1) := by decide +kernel
theorem dX7_sumOf_34 : decode cX7_sumOf 34 = .ok (.iinc 3 1, 3) := by decide +kernel
theorem dX7_sumOf_37 : decode cX7_sumOf 37 = .ok (.goto (-33), 3) := by decide +kernel
theorem dX7_sumOf_40 : decode cX7_sumOf 40 = .ok (.iload_n 2, 1) := by decide +kernel
theorem dX7_sumOf_41 : decode cX7_sumOf 41 = .ok (.ireturn, 1) := by decide +kernel
theorem dX7_readBy_0 : decode cX7_readBy 0 = .ok (.iload_n 0, 1) := by decide +kernel
theorem dX7_readBy_1 : decode cX7_readBy 1 = .ok (.iload_n 1, 1) := by decide +kernel
theorem dX7_readBy_2 : decode cX7_readBy 2 = .ok (.iadd, 1) := by decide +kernel
theorem dX7_readBy_3 : decode cX7_readBy 3 = .ok (.istore_n 3, 1) := by decide +kernel
theorem dX7_readBy_4 : decode cX7_readBy 4 = .ok (.iload_n 3, 1) := by decide +kernel
theorem dX7_readBy_5 : decode cX7_readBy 5 = .ok (.iload_n 3, 1) := by decide +kernel
theorem dX7_readBy_6 : decode cX7_readBy 6 = .ok (.iload_n 2, 1) := by decide +kernel
theorem dX7_readBy_7 : decode cX7_readBy 7 = .ok (.irem, 1) := by decide +kernel
theorem dX7_readBy_8 : decode cX7_readBy 8 = .ok (.isub, 1) := by decide +kernel
theorem dX7_readBy_9 : decode cX7_readBy 9 = .ok (.ireturn, 1) := by decide +kernel
set_option maxRecDepth 20000 in
theorem ggX7_readOf_X7_sumOf : GoodIn wsX7_readOf wsX7_sumOf := goodIn_r _ [6, 1, 7, 8, 5, 9, 10, 11, 12, 13, 14, 15, 16, 17, 18, 19, 20, 21, 22, 23, 24, 25, 29, 30, 31, 32, 33, 34, 35, 36, 37, 38, 39, 40, 41, 42, 43, 44, 45, 46, 47, 48, 49, 50, 51, 52] (by decide +kernel) (by decide +kernel)
set_option maxRecDepth 20000 in
theorem gX7_readOf_X7_sumOf : GoodIn wsX7_readOf (wsV RX7 159 RX7 yX7_sumOf wsX7_sumOf) := goodIn_app (goodIn_of _ (by decide +kernel)) ggX7_readOf_X7_sumOf
set_option maxRecDepth 20000 in
theorem ggX7_readOf_X7_readBy : GoodIn wsX7_readOf wsX7_readBy := goodIn_r _ [28] (by decide +kernel) (by decide +kernel)
set_option maxRecDepth 20000 in
theorem gX7_readOf_X7_readBy : GoodIn wsX7_readOf (va_wsS RX7 162 yX7_readBy wsX7_readBy) := goodIn_app (goodIn_of _ (by decide +kernel)) ggX7_readOf_X7_readBy
theorem dX7_readOf_0 : decode cX7_readOf 0 = .ok (.aload_n 0, 1) := by decide +kernel
theorem dX7_readOf_1 : decode cX7_readOf 1 = .ok (.iload_n 1, 1) := by decide +kernel
theorem dX7_readOf_2 : decode cX7_readOf 2 = .ok (.invokevirtual 159, 3) := by decide +kernel
theorem dX7_readOf_5 : decode cX7_readOf 5 = .ok (.aload_n 0, 1) := by decide +kernel
theorem dX7_readOf_6 : decode cX7_readOf 6 = .ok (.getfield 19, 3) := by decide +kernel
theorem dX7_readOf_9 : decode cX7_readOf 9 = .ok (.iconst 0, 1) := by decide +kernel
theorem dX7_readOf_10 : decode cX7_readOf 10 = .ok (.iaload, 1) := by decide +kernel
theorem dX7_readOf_11 : decode cX7_readOf 11 = .ok (.aload_n 0, 1) := by decide +kernel
theorem dX7_readOf_12 : decode cX7_readOf 12 = .ok (.getfield 19, 3) := by decide +kernel
theorem dX7_readOf_15 : decode cX7_readOf 15 = .ok (.iconst 1, 1) := by decide +kernel
theorem dX7_readOf_16 : decode cX7_readOf 16 = .ok (.iaload, 1) := by decide +kernel
theorem dX7_readOf_17 : decode cX7_readOf 17 = .ok (.invokestatic 162, 3) := by decide +kernel
theorem dX7_readOf_20 : decode cX7_readOf 20 = .ok (.ireturn, 1) := by decide +kernel
theorem dX7_note_0 : decode cX7_note 0 = .ok (.aload_n 0, 1) := by decide +kernel
theorem dX7_note_1 : decode cX7_note 1 = .ok (.getfield 139, 3) := by decide +kernel
theorem dX7_note_4 : decode cX7_note 4 = .ok (.bipush 24, 2) := by decide +kernel
theorem dX7_note_6 : decode cX7_note 6 = .ok (.if_icmp .ne 43, 3) := by decide +kernel
theorem dX7_note_9 : decode cX7_note 9 = .ok (.iconst 0, 1) := by decide +kernel
theorem dX7_note_10 : decode cX7_note 10 = .ok (.istore_n 1, 1) := by decide +kernel
theorem dX7_note_11 : decode cX7_note 11 = .ok (.iload_n 1, 1) := by decide +kernel
theorem dX7_note_12 : decode cX7_note 12 = .ok (.sipush 1311, 3) := by decide +kernel
theorem dX7_note_15 : decode cX7_note 15 = .ok (.if_icmp .ge 24, 3) := by decide +kernel
theorem dX7_note_18 : decode cX7_note 18 = .ok (.aload_n 0, 1) := by decide +kernel
theorem dX7_note_19 : decode cX7_note 19 = .ok (.getfield 31, 3) := by decide +kernel
theorem dX7_note_22 : decode cX7_note 22 = .ok (.iload_n 1, 1) := by decide +kernel
theorem dX7_note_23 : decode cX7_note 23 = .ok (.aload_n 0, 1) := by decide +kernel
theorem dX7_note_24 : decode cX7_note 24 = .ok (.getfield 31, 3) := by decide +kernel
theorem dX7_note_27 : decode cX7_note 27 = .ok (.iload_n 1, 1) := by decide +kernel
theorem dX7_note_28 : decode cX7_note 28 = .ok (.bipush 57, 2) := by decide +kernel
theorem dX7_note_30 : decode cX7_note 30 = .ok (.iadd, 1) := by decide +kernel
theorem dX7_note_31 : decode cX7_note 31 = .ok (.iaload, 1) := by decide +kernel
theorem dX7_note_32 : decode cX7_note 32 = .ok (.iastore, 1) := by decide +kernel
theorem dX7_note_33 : decode cX7_note 33 = .ok (.iinc 1 1, 3) := by decide +kernel
theorem dX7_note_36 : decode cX7_note 36 = .ok (.goto (-25), 3) := by decide +kernel
theorem dX7_note_39 : decode cX7_note 39 = .ok (.aload_n 0, 1) := by decide +kernel
theorem dX7_note_40 : decode cX7_note 40 = .ok (.dup, 1) := by decide +kernel
theorem dX7_note_41 : decode cX7_note 41 = .ok (.getfield 139, 3) := by decide +kernel
theorem dX7_note_44 : decode cX7_note 44 = .ok (.iconst 1, 1) := by decide +kernel
theorem dX7_note_45 : decode cX7_note 45 = .ok (.isub, 1) := by decide +kernel
theorem dX7_note_46 : decode cX7_note 46 = .ok (.putfield 139, 3) := by decide +kernel
theorem dX7_note_49 : decode cX7_note 49 = .ok (.iconst 0, 1) := by decide +kernel
theorem dX7_note_50 : decode cX7_note 50 = .ok (.istore_n 1, 1) := by decide +kernel
theorem dX7_note_51 : decode cX7_note 51 = .ok (.iload_n 1, 1) := by decide +kernel
theorem dX7_note_52 : decode cX7_note 52 = .ok (.bipush 57, 2) := by decide +kernel
theorem dX7_note_54 : decode cX7_note 54 = .ok (.if_icmp .ge 29, 3) := by decide +kernel
theorem dX7_note_57 : decode cX7_note 57 = .ok (.aload_n 0, 1) := by decide +kernel
theorem dX7_note_58 : decode cX7_note 58 = .ok (.getfield 31, 3) := by decide +kernel
theorem dX7_note_61 : decode cX7_note 61 = .ok (.bipush 57, 2) := by decide +kernel
theorem dX7_note_63 : decode cX7_note 63 = .ok (.aload_n 0, 1) := by decide +kernel
theorem dX7_note_64 : decode cX7_note 64 = .ok (.getfield 139, 3) := by decide +kernel
theorem dX7_note_67 : decode cX7_note 67 = .ok (.imul, 1) := by decide +kernel
theorem dX7_note_68 : decode cX7_note 68 = .ok (.iload_n 1, 1) := by decide +kernel
theorem dX7_note_69 : decode cX7_note 69 = .ok (.iadd, 1) := by decide +kernel
theorem dX7_note_70 : decode cX7_note 70 = .ok (.aload_n 0, 1) := by decide +kernel
theorem dX7_note_71 : decode cX7_note 71 = .ok (.getfield 19, 3) := by decide +kernel
theorem dX7_note_74 : decode cX7_note 74 = .ok (.iload_n 1, 1) := by decide +kernel
theorem dX7_note_75 : decode cX7_note 75 = .ok (.iaload, 1) := by decide +kernel
theorem dX7_note_76 : decode cX7_note 76 = .ok (.iastore, 1) := by decide +kernel
theorem dX7_note_77 : decode cX7_note 77 = .ok (.iinc 1 1, 3) := by decide +kernel
theorem dX7_note_80 : decode cX7_note 80 = .ok (.goto (-29), 3) := by decide +kernel
theorem dX7_note_83 : decode cX7_note 83 = .ok (.aload_n 0, 1) := by decide +kernel
theorem dX7_note_84 : decode cX7_note 84 = .ok (.dup, 1) := by decide +kernel
theorem dX7_note_85 : decode cX7_note 85 = .ok (.getfield 139, 3) := by decide +kernel
theorem dX7_note_88 : decode cX7_note 88 = .ok (.iconst 1, 1) := by decide +kernel
theorem dX7_note_89 : decode cX7_note 89 = .ok (.iadd, 1) := by decide +kernel
theorem dX7_note_90 : decode cX7_note 90 = .ok (.putfield 139, 3) := by decide +kernel
theorem dX7_note_93 : decode cX7_note 93 = .ok (.return_, 1) := by decide +kernel
set_option maxRecDepth 20000 in
theorem ggX7_lay_X7_isPromise : GoodIn wsX7_lay wsX7_isPromise := goodIn_r _ [8, 2, 9, 10, 7, 11, 48, 49, 50, 51, 52, 53, 54, 55, 56, 57, 58, 59, 60, 61, 62, 63, 64, 65, 66, 67, 68, 69, 70, 71] (by decide +kernel) (by decide +kernel)
set_option maxRecDepth 20000 in
theorem gX7_lay_X7_isPromise : GoodIn wsX7_lay (wsV RX7 165 RX7 yX7_isPromise wsX7_isPromise) := goodIn_app (goodIn_of _ (by decide +kernel)) ggX7_lay_X7_isPromise
set_option maxRecDepth 20000 in
theorem ggX7_lay_X7_in : GoodIn wsX7_lay wsX7_in := goodIn_r _ [11] (by decide +kernel) (by decide +kernel)
set_option maxRecDepth 20000 in
theorem gX7_lay_X7_in : GoodIn wsX7_lay (va_wsS RX7 54 yX7_in wsX7_in) := goodIn_app (goodIn_of _ (by decide +kernel)) ggX7_lay_X7_in
set_option maxRecDepth 20000 in
theorem ggX7_lay_X7_isOpen : GoodIn wsX7_lay wsX7_isOpen := goodIn_r _ [15, 2, 48, 49, 50, 51, 52, 53, 54, 55, 56, 57, 58, 59, 60, 61, 62, 63, 64, 65, 66, 67, 68, 69, 70, 71] (by decide +kernel) (by decide +kernel)
set_option maxRecDepth 20000 in
theorem gX7_lay_X7_isOpen : GoodIn wsX7_lay (wsV RX7 145 RX7 yX7_isOpen wsX7_isOpen) := goodIn_app (goodIn_of _ (by decide +kernel)) ggX7_lay_X7_isOpen
set_option maxRecDepth 20000 in
theorem ggX7_lay_X7_note : GoodIn wsX7_lay wsX7_note := goodIn_r _ [19, 20, 21, 2, 48, 49, 50, 51, 52, 53, 54, 55, 56, 57, 58, 59, 60, 61, 62, 63, 64, 65, 66, 67, 68, 69, 70, 71] (by decide +kernel) (by decide +kernel)
set_option maxRecDepth 20000 in
theorem gX7_lay_X7_note : GoodIn wsX7_lay (wsV RX7 169 RX7 yX7_note wsX7_note) := goodIn_app (goodIn_of _ (by decide +kernel)) ggX7_lay_X7_note
set_option maxRecDepth 20000 in
theorem ggX7_lay_X7_readOf : GoodIn wsX7_lay wsX7_readOf := goodIn_r _ [25, 2, 26, 27, 28, 7, 29, 30, 31, 32, 33, 34, 35, 36, 12, 13, 14, 15, 37, 38, 39, 40, 41, 42, 43, 44, 45, 46, 47, 48, 49, 50, 51, 52, 53, 54, 55, 56, 57, 58, 59, 60, 61, 62, 63, 64, 65, 66, 67, 68, 69, 70, 71] (by decide +kernel) (by decide +kernel)
set_option maxRecDepth 20000 in
theorem gX7_lay_X7_readOf : GoodIn wsX7_lay (wsV RX7 172 RX7 yX7_readOf wsX7_readOf) := goodIn_app (goodIn_of _ (by decide +kernel)) ggX7_lay_X7_readOf
theorem dX7_lay_0 : decode cX7_lay 0 = .ok (.aload_n 0, 1) := by decide +kernel
theorem dX7_lay_1 : decode cX7_lay 1 = .ok (.iload_n 1, 1) := by decide +kernel
theorem dX7_lay_2 : decode cX7_lay 2 = .ok (.invokevirtual 165, 3) := by decide +kernel
theorem dX7_lay_5 : decode cX7_lay 5 = .ok (.ifCond .eq 13, 3) := by decide +kernel
theorem dX7_lay_8 : decode cX7_lay 8 = .ok (.iload_n 2, 1) := by decide +kernel
theorem dX7_lay_9 : decode cX7_lay 9 = .ok (.i2l, 1) := by decide +kernel
theorem dX7_lay_10 : decode cX7_lay 10 = .ok (.lconst 0, 1) := by decide +kernel
theorem dX7_lay_11 : decode cX7_lay 11 = .ok (.lconst 1, 1) := by decide +kernel
theorem dX7_lay_12 : decode cX7_lay 12 = .ok (.invokestatic 54, 3) := by decide +kernel
theorem dX7_lay_15 : decode cX7_lay 15 = .ok (.ifCond .ne 6, 3) := by decide +kernel
theorem dX7_lay_18 : decode cX7_lay 18 = .ok (.ldc 64, 2) := by decide +kernel
theorem dX7_lay_20 : decode cX7_lay 20 = .ok (.ireturn, 1) := by decide +kernel
theorem dX7_lay_21 : decode cX7_lay 21 = .ok (.aload_n 0, 1) := by decide +kernel
theorem dX7_lay_22 : decode cX7_lay 22 = .ok (.iload_n 1, 1) := by decide +kernel
theorem dX7_lay_23 : decode cX7_lay 23 = .ok (.invokevirtual 145, 3) := by decide +kernel
theorem dX7_lay_26 : decode cX7_lay 26 = .ok (.ifCond .eq 17, 3) := by decide +kernel
theorem dX7_lay_29 : decode cX7_lay 29 = .ok (.aload_n 0, 1) := by decide +kernel
theorem dX7_lay_30 : decode cX7_lay 30 = .ok (.getfield 19, 3) := by decide +kernel
theorem dX7_lay_33 : decode cX7_lay 33 = .ok (.iconst 4, 1) := by decide +kernel
theorem dX7_lay_34 : decode cX7_lay 34 = .ok (.iaload, 1) := by decide +kernel
theorem dX7_lay_35 : decode cX7_lay 35 = .ok (.iload_n 1, 1) := by decide +kernel
theorem dX7_lay_36 : decode cX7_lay 36 = .ok (.ishr, 1) := by decide +kernel
theorem dX7_lay_37 : decode cX7_lay 37 = .ok (.iconst 1, 1) := by decide +kernel
theorem dX7_lay_38 : decode cX7_lay 38 = .ok (.iand, 1) := by decide +kernel
theorem dX7_lay_39 : decode cX7_lay 39 = .ok (.iload_n 2, 1) := by decide +kernel
theorem dX7_lay_40 : decode cX7_lay 40 = .ok (.if_icmp .ne 6, 3) := by decide +kernel
theorem dX7_lay_43 : decode cX7_lay 43 = .ok (.ldc 168, 2) := by decide +kernel
theorem dX7_lay_45 : decode cX7_lay 45 = .ok (.ireturn, 1) := by decide +kernel
theorem dX7_lay_46 : decode cX7_lay 46 = .ok (.aload_n 0, 1) := by decide +kernel
theorem dX7_lay_47 : decode cX7_lay 47 = .ok (.invokevirtual 169, 3) := by decide +kernel
theorem dX7_lay_50 : decode cX7_lay 50 = .ok (.aload_n 0, 1) := by decide +kernel
theorem dX7_lay_51 : decode cX7_lay 51 = .ok (.getfield 19, 3) := by decide +kernel
theorem dX7_lay_54 : decode cX7_lay 54 = .ok (.iconst 4, 1) := by decide +kernel
theorem dX7_lay_55 : decode cX7_lay 55 = .ok (.dup2, 1) := by decide +kernel
theorem dX7_lay_56 : decode cX7_lay 56 = .ok (.iaload, 1) := by decide +kernel
theorem dX7_lay_57 : decode cX7_lay 57 = .ok (.iconst 1, 1) := by decide +kernel
theorem dX7_lay_58 : decode cX7_lay 58 = .ok (.iload_n 1, 1) := by decide +kernel
theorem dX7_lay_59 : decode cX7_lay 59 = .ok (.ishl, 1) := by decide +kernel
theorem dX7_lay_60 : decode cX7_lay 60 = .ok (.ixor, 1) := by decide +kernel
theorem dX7_lay_61 : decode cX7_lay 61 = .ok (.iastore, 1) := by decide +kernel
theorem dX7_lay_62 : decode cX7_lay 62 = .ok (.aload_n 0, 1) := by decide +kernel
theorem dX7_lay_63 : decode cX7_lay 63 = .ok (.aload_n 0, 1) := by decide +kernel
theorem dX7_lay_64 : decode cX7_lay 64 = .ok (.getfield 19, 3) := by decide +kernel
theorem dX7_lay_67 : decode cX7_lay 67 = .ok (.iconst 4, 1) := by decide +kernel
theorem dX7_lay_68 : decode cX7_lay 68 = .ok (.iaload, 1) := by decide +kernel
theorem dX7_lay_69 : decode cX7_lay 69 = .ok (.invokevirtual 172, 3) := by decide +kernel
theorem dX7_lay_72 : decode cX7_lay 72 = .ok (.ireturn, 1) := by decide +kernel
theorem dX7_settleNow_0 : decode cX7_settleNow 0 = .ok (.iconst 5, 1) := by decide +kernel
theorem dX7_settleNow_1 : decode cX7_settleNow 1 = .ok (.aload_n 0, 1) := by decide +kernel
theorem dX7_settleNow_2 : decode cX7_settleNow 2 = .ok (.getfield 19, 3) := by decide +kernel
theorem dX7_settleNow_5 : decode cX7_settleNow 5 = .ok (.bipush 17, 2) := by decide +kernel
theorem dX7_settleNow_7 : decode cX7_settleNow 7 = .ok (.iload_n 1, 1) := by decide +kernel
theorem dX7_settleNow_8 : decode cX7_settleNow 8 = .ok (.iadd, 1) := by decide +kernel
theorem dX7_settleNow_9 : decode cX7_settleNow 9 = .ok (.iaload, 1) := by decide +kernel
theorem dX7_settleNow_10 : decode cX7_settleNow 10 = .ok (.iadd, 1) := by decide +kernel
theorem dX7_settleNow_11 : decode cX7_settleNow 11 = .ok (.istore_n 3, 1) := by decide +kernel
theorem dX7_settleNow_12 : decode cX7_settleNow 12 = .ok (.aload_n 0, 1) := by decide +kernel
theorem dX7_settleNow_13 : decode cX7_settleNow 13 = .ok (.getfield 19, 3) := by decide +kernel
theorem dX7_settleNow_16 : decode cX7_settleNow 16 = .ok (.bipush 49, 2) := by decide +kernel
theorem dX7_settleNow_18 : decode cX7_settleNow 18 = .ok (.iload_n 1, 1) := by decide +kernel
theorem dX7_settleNow_19 : decode cX7_settleNow 19 = .ok (.iadd, 1) := by decide +kernel
theorem dX7_settleNow_20 : decode cX7_settleNow 20 = .ok (.iload_n 2, 1) := by decide +kernel
theorem dX7_settleNow_21 : decode cX7_settleNow 21 = .ok (.ifCond .eq 7, 3) := by decide +kernel
theorem dX7_settleNow_24 : decode cX7_settleNow 24 = .ok (.iconst 1, 1) := by decide +kernel
theorem dX7_settleNow_25 : decode cX7_settleNow 25 = .ok (.goto 4, 3) := by decide +kernel
theorem dX7_settleNow_28 : decode cX7_settleNow 28 = .ok (.iconst 2, 1) := by decide +kernel
theorem dX7_settleNow_29 : decode cX7_settleNow 29 = .ok (.iastore, 1) := by decide +kernel
theorem dX7_settleNow_30 : decode cX7_settleNow 30 = .ok (.aload_n 0, 1) := by decide +kernel
theorem dX7_settleNow_31 : decode cX7_settleNow 31 = .ok (.getfield 19, 3) := by decide +kernel
theorem dX7_settleNow_34 : decode cX7_settleNow 34 = .ok (.iconst 4, 1) := by decide +kernel
theorem dX7_settleNow_35 : decode cX7_settleNow 35 = .ok (.dup2, 1) := by decide +kernel
theorem dX7_settleNow_36 : decode cX7_settleNow 36 = .ok (.iaload, 1) := by decide +kernel
theorem dX7_settleNow_37 : decode cX7_settleNow 37 = .ok (.iconst 1, 1) := by decide +kernel
theorem dX7_settleNow_38 : decode cX7_settleNow 38 = .ok (.iload_n 1, 1) := by decide +kernel
theorem dX7_settleNow_39 : decode cX7_settleNow 39 = .ok (.ishl, 1) := by decide +kernel
theorem dX7_settleNow_40 : decode cX7_settleNow 40 = .ok (.iconst (-1), 1) := by decide +kernel
theorem dX7_settleNow_41 : decode cX7_settleNow 41 = .ok (.ixor, 1) := by decide +kernel
theorem dX7_settleNow_42 : decode cX7_settleNow 42 = .ok (.iand, 1) := by decide +kernel
theorem dX7_settleNow_43 : decode cX7_settleNow 43 = .ok (.iastore, 1) := by decide +kernel
theorem dX7_settleNow_44 : decode cX7_settleNow 44 = .ok (.iload_n 2, 1) := by decide +kernel
theorem dX7_settleNow_45 : decode cX7_settleNow 45 = .ok (.ifCond .eq 14, 3) := by decide +kernel
theorem dX7_settleNow_48 : decode cX7_settleNow 48 = .ok (.aload_n 0, 1) := by decide +kernel
theorem dX7_settleNow_49 : decode cX7_settleNow 49 = .ok (.getfield 19, 3) := by decide +kernel
theorem dX7_settleNow_52 : decode cX7_settleNow 52 = .ok (.iload_n 3, 1) := by decide +kernel
theorem dX7_settleNow_53 : decode cX7_settleNow 53 = .ok (.iaload, 1) := by decide +kernel
theorem dX7_settleNow_54 : decode cX7_settleNow 54 = .ok (.iconst 1, 1) := by decide +kernel
theorem dX7_settleNow_55 : decode cX7_settleNow 55 = .ok (.iadd, 1) := by decide +kernel
theorem dX7_settleNow_56 : decode cX7_settleNow 56 = .ok (.goto 11, 3) := by decide +kernel
theorem dX7_settleNow_59 : decode cX7_settleNow 59 = .ok (.aload_n 0, 1) := by decide +kernel
theorem dX7_settleNow_60 : decode cX7_settleNow 60 = .ok (.getfield 19, 3) := by decide +kernel
theorem dX7_settleNow_63 : decode cX7_settleNow 63 = .ok (.iload_n 3, 1) := by decide +kernel
theorem dX7_settleNow_64 : decode cX7_settleNow 64 = .ok (.iaload, 1) := by decide +kernel
theorem dX7_settleNow_65 : decode cX7_settleNow 65 = .ok (.iconst 1, 1) := by decide +kernel
theorem dX7_settleNow_66 : decode cX7_settleNow 66 = .ok (.isub, 1) := by decide +kernel
theorem dX7_settleNow_67 : decode cX7_settleNow 67 = .ok (.istore 4, 2) := by decide +kernel
theorem dX7_settleNow_69 : decode cX7_settleNow 69 = .ok (.aload_n 0, 1) := by decide +kernel
theorem dX7_settleNow_70 : decode cX7_settleNow 70 = .ok (.getfield 19, 3) := by decide +kernel
theorem dX7_settleNow_73 : decode cX7_settleNow 73 = .ok (.iload_n 3, 1) := by decide +kernel
theorem dX7_settleNow_74 : decode cX7_settleNow 74 = .ok (.iload 4, 2) := by decide +kernel
theorem dX7_settleNow_76 : decode cX7_settleNow 76 = .ok (.ifCond .ge 7, 3) := by decide +kernel
theorem dX7_settleNow_79 : decode cX7_settleNow 79 = .ok (.iconst 0, 1) := by decide +kernel
theorem dX7_settleNow_80 : decode cX7_settleNow 80 = .ok (.goto 17, 3) := by decide +kernel
theorem dX7_settleNow_83 : decode cX7_settleNow 83 = .ok (.iload 4, 2) := by decide +kernel
theorem dX7_settleNow_85 : decode cX7_settleNow 85 = .ok (.bipush 10, 2) := by decide +kernel
theorem dX7_settleNow_87 : decode cX7_settleNow 87 = .ok (.if_icmp .le 8, 3) := by decide +kernel
theorem dX7_settleNow_90 : decode cX7_settleNow 90 = .ok (.bipush 10, 2) := by decide +kernel
theorem dX7_settleNow_92 : decode cX7_settleNow 92 = .ok (.goto 5, 3) := by decide +kernel
theorem dX7_settleNow_95 : decode cX7_settleNow 95 = .ok (.iload 4, 2) := by decide +kernel
theorem dX7_settleNow_97 : decode cX7_settleNow 97 = .ok (.iastore, 1) := by decide +kernel
theorem dX7_settleNow_98 : decode cX7_settleNow 98 = .ok (.return_, 1) := by decide +kernel
set_option maxRecDepth 20000 in
theorem ggX7_settle_X7_isPromise : GoodIn wsX7_settle wsX7_isPromise := goodIn_r _ [8, 3, 9, 10, 7, 11, 26, 27, 28, 29, 30, 31, 32, 33, 34, 35, 36, 37, 38, 39, 40, 41, 42, 43, 44, 45, 46, 47, 48, 49] (by decide +kernel) (by decide +kernel)
set_option maxRecDepth 20000 in
theorem gX7_settle_X7_isPromise : GoodIn wsX7_settle (wsV RX7 165 RX7 yX7_isPromise wsX7_isPromise) := goodIn_app (goodIn_of _ (by decide +kernel)) ggX7_settle_X7_isPromise
set_option maxRecDepth 20000 in
theorem ggX7_settle_X7_in : GoodIn wsX7_settle wsX7_in := goodIn_r _ [11] (by decide +kernel) (by decide +kernel)
set_option maxRecDepth 20000 in
theorem gX7_settle_X7_in : GoodIn wsX7_settle (va_wsS RX7 54 yX7_in wsX7_in) := goodIn_app (goodIn_of _ (by decide +kernel)) ggX7_settle_X7_in
set_option maxRecDepth 20000 in
theorem ggX7_settle_X7_isOpen : GoodIn wsX7_settle wsX7_isOpen := goodIn_r _ [15, 3, 26, 27, 28, 29, 30, 31, 32, 33, 34, 35, 36, 37, 38, 39, 40, 41, 42, 43, 44, 45, 46, 47, 48, 49] (by decide +kernel) (by decide +kernel)
set_option maxRecDepth 20000 in
theorem gX7_settle_X7_isOpen : GoodIn wsX7_settle (wsV RX7 145 RX7 yX7_isOpen wsX7_isOpen) := goodIn_app (goodIn_of _ (by decide +kernel)) ggX7_settle_X7_isOpen
set_option maxRecDepth 20000 in
theorem ggX7_settle_X7_note : GoodIn wsX7_settle wsX7_note := goodIn_r _ [19, 20, 21, 3, 26, 27, 28, 29, 30, 31, 32, 33, 34, 35, 36, 37, 38, 39, 40, 41, 42, 43, 44, 45, 46, 47, 48, 49] (by decide +kernel) (by decide +kernel)
set_option maxRecDepth 20000 in
theorem gX7_settle_X7_note : GoodIn wsX7_settle (wsV RX7 169 RX7 yX7_note wsX7_note) := goodIn_app (goodIn_of _ (by decide +kernel)) ggX7_settle_X7_note
set_option maxRecDepth 20000 in
theorem ggX7_settle_X7_settleNow : GoodIn wsX7_settle wsX7_settleNow := goodIn_r _ [25, 3, 26, 27, 28, 29, 30, 31, 32, 33, 34, 35, 36, 37, 38, 39, 40, 41, 42, 43, 44, 45, 46, 47, 48, 49] (by decide +kernel) (by decide +kernel)
set_option maxRecDepth 20000 in
theorem gX7_settle_X7_settleNow : GoodIn wsX7_settle (wsV RX7 175 RX7 yX7_settleNow wsX7_settleNow) := goodIn_app (goodIn_of _ (by decide +kernel)) ggX7_settle_X7_settleNow
theorem dX7_settle_0 : decode cX7_settle 0 = .ok (.aload_n 0, 1) := by decide +kernel
theorem dX7_settle_1 : decode cX7_settle 1 = .ok (.iload_n 1, 1) := by decide +kernel
theorem dX7_settle_2 : decode cX7_settle 2 = .ok (.invokevirtual 165, 3) := by decide +kernel
theorem dX7_settle_5 : decode cX7_settle 5 = .ok (.ifCond .eq 13, 3) := by decide +kernel
theorem dX7_settle_8 : decode cX7_settle 8 = .ok (.iload_n 2, 1) := by decide +kernel
theorem dX7_settle_9 : decode cX7_settle 9 = .ok (.i2l, 1) := by decide +kernel
theorem dX7_settle_10 : decode cX7_settle 10 = .ok (.lconst 0, 1) := by decide +kernel
theorem dX7_settle_11 : decode cX7_settle 11 = .ok (.lconst 1, 1) := by decide +kernel
theorem dX7_settle_12 : decode cX7_settle 12 = .ok (.invokestatic 54, 3) := by decide +kernel
theorem dX7_settle_15 : decode cX7_settle 15 = .ok (.ifCond .ne 6, 3) := by decide +kernel
theorem dX7_settle_18 : decode cX7_settle 18 = .ok (.ldc 64, 2) := by decide +kernel
theorem dX7_settle_20 : decode cX7_settle 20 = .ok (.ireturn, 1) := by decide +kernel
theorem dX7_settle_21 : decode cX7_settle 21 = .ok (.aload_n 0, 1) := by decide +kernel
theorem dX7_settle_22 : decode cX7_settle 22 = .ok (.iload_n 1, 1) := by decide +kernel
theorem dX7_settle_23 : decode cX7_settle 23 = .ok (.invokevirtual 145, 3) := by decide +kernel
theorem dX7_settle_26 : decode cX7_settle 26 = .ok (.ifCond .ne 6, 3) := by decide +kernel
theorem dX7_settle_29 : decode cX7_settle 29 = .ok (.ldc 168, 2) := by decide +kernel
theorem dX7_settle_31 : decode cX7_settle 31 = .ok (.ireturn, 1) := by decide +kernel
theorem dX7_settle_32 : decode cX7_settle 32 = .ok (.aload_n 0, 1) := by decide +kernel
theorem dX7_settle_33 : decode cX7_settle 33 = .ok (.invokevirtual 169, 3) := by decide +kernel
theorem dX7_settle_36 : decode cX7_settle 36 = .ok (.aload_n 0, 1) := by decide +kernel
theorem dX7_settle_37 : decode cX7_settle 37 = .ok (.iload_n 1, 1) := by decide +kernel
theorem dX7_settle_38 : decode cX7_settle 38 = .ok (.iload_n 2, 1) := by decide +kernel
theorem dX7_settle_39 : decode cX7_settle 39 = .ok (.iconst 1, 1) := by decide +kernel
theorem dX7_settle_40 : decode cX7_settle 40 = .ok (.if_icmp .ne 7, 3) := by decide +kernel
theorem dX7_settle_43 : decode cX7_settle 43 = .ok (.iconst 1, 1) := by decide +kernel
theorem dX7_settle_44 : decode cX7_settle 44 = .ok (.goto 4, 3) := by decide +kernel
theorem dX7_settle_47 : decode cX7_settle 47 = .ok (.iconst 0, 1) := by decide +kernel
theorem dX7_settle_48 : decode cX7_settle 48 = .ok (.invokevirtual 175, 3) := by decide +kernel
theorem dX7_settle_51 : decode cX7_settle 51 = .ok (.aload_n 0, 1) := by decide +kernel
theorem dX7_settle_52 : decode cX7_settle 52 = .ok (.getfield 19, 3) := by decide +kernel
theorem dX7_settle_55 : decode cX7_settle 55 = .ok (.iconst 5, 1) := by decide +kernel
theorem dX7_settle_56 : decode cX7_settle 56 = .ok (.aload_n 0, 1) := by decide +kernel
theorem dX7_settle_57 : decode cX7_settle 57 = .ok (.getfield 19, 3) := by decide +kernel
theorem dX7_settle_60 : decode cX7_settle 60 = .ok (.bipush 17, 2) := by decide +kernel
theorem dX7_settle_62 : decode cX7_settle 62 = .ok (.iload_n 1, 1) := by decide +kernel
theorem dX7_settle_63 : decode cX7_settle 63 = .ok (.iadd, 1) := by decide +kernel
theorem dX7_settle_64 : decode cX7_settle 64 = .ok (.iaload, 1) := by decide +kernel
theorem dX7_settle_65 : decode cX7_settle 65 = .ok (.iadd, 1) := by decide +kernel
theorem dX7_settle_66 : decode cX7_settle 66 = .ok (.iaload, 1) := by decide +kernel
theorem dX7_settle_67 : decode cX7_settle 67 = .ok (.ireturn, 1) := by decide +kernel
set_option maxRecDepth 20000 in
theorem ggX7_wax_X7_in : GoodIn wsX7_wax wsX7_in := goodIn_r _ [9] (by decide +kernel) (by decide +kernel)
set_option maxRecDepth 20000 in
theorem gX7_wax_X7_in : GoodIn wsX7_wax (va_wsS RX7 54 yX7_in wsX7_in) := goodIn_app (goodIn_of _ (by decide +kernel)) ggX7_wax_X7_in
set_option maxRecDepth 20000 in
theorem ggX7_wax_X7_note : GoodIn wsX7_wax wsX7_note := goodIn_r _ [13, 14, 15, 5, 16, 17, 18, 19, 20, 21, 22, 23, 24, 25, 26, 27, 28, 29, 30, 31, 32, 33, 34, 35, 36, 37, 38, 39] (by decide +kernel) (by decide +kernel)
set_option maxRecDepth 20000 in
theorem gX7_wax_X7_note : GoodIn wsX7_wax (wsV RX7 169 RX7 yX7_note wsX7_note) := goodIn_app (goodIn_of _ (by decide +kernel)) ggX7_wax_X7_note
theorem dX7_wax_0 : decode cX7_wax 0 = .ok (.aload_n 0, 1) := by decide +kernel
theorem dX7_wax_1 : decode cX7_wax 1 = .ok (.getfield 135, 3) := by decide +kernel
theorem dX7_wax_4 : decode cX7_wax 4 = .ok (.ifCond .ne 6, 3) := by decide +kernel
theorem dX7_wax_7 : decode cX7_wax 7 = .ok (.ldc 168, 2) := by decide +kernel
theorem dX7_wax_9 : decode cX7_wax 9 = .ok (.ireturn, 1) := by decide +kernel
theorem dX7_wax_10 : decode cX7_wax 10 = .ok (.iload_n 1, 1) := by decide +kernel
theorem dX7_wax_11 : decode cX7_wax 11 = .ok (.i2l, 1) := by decide +kernel
theorem dX7_wax_12 : decode cX7_wax 12 = .ok (.lconst 0, 1) := by decide +kernel
theorem dX7_wax_13 : decode cX7_wax 13 = .ok (.ldc2_w 179, 3) := by decide +kernel
theorem dX7_wax_16 : decode cX7_wax 16 = .ok (.invokestatic 54, 3) := by decide +kernel
theorem dX7_wax_19 : decode cX7_wax 19 = .ok (.ifCond .ne 6, 3) := by decide +kernel
theorem dX7_wax_22 : decode cX7_wax 22 = .ok (.ldc 64, 2) := by decide +kernel
theorem dX7_wax_24 : decode cX7_wax 24 = .ok (.ireturn, 1) := by decide +kernel
theorem dX7_wax_25 : decode cX7_wax 25 = .ok (.aload_n 0, 1) := by decide +kernel
theorem dX7_wax_26 : decode cX7_wax 26 = .ok (.invokevirtual 169, 3) := by decide +kernel
theorem dX7_wax_29 : decode cX7_wax 29 = .ok (.aload_n 0, 1) := by decide +kernel
theorem dX7_wax_30 : decode cX7_wax 30 = .ok (.getfield 19, 3) := by decide +kernel
theorem dX7_wax_33 : decode cX7_wax 33 = .ok (.iconst 0, 1) := by decide +kernel
theorem dX7_wax_34 : decode cX7_wax 34 = .ok (.iaload, 1) := by decide +kernel
theorem dX7_wax_35 : decode cX7_wax 35 = .ok (.istore_n 2, 1) := by decide +kernel
theorem dX7_wax_36 : decode cX7_wax 36 = .ok (.aload_n 0, 1) := by decide +kernel
theorem dX7_wax_37 : decode cX7_wax 37 = .ok (.getfield 19, 3) := by decide +kernel
theorem dX7_wax_40 : decode cX7_wax 40 = .ok (.iconst 0, 1) := by decide +kernel
theorem dX7_wax_41 : decode cX7_wax 41 = .ok (.iload_n 1, 1) := by decide +kernel
theorem dX7_wax_42 : decode cX7_wax 42 = .ok (.iastore, 1) := by decide +kernel
theorem dX7_wax_43 : decode cX7_wax 43 = .ok (.iload_n 2, 1) := by decide +kernel
theorem dX7_wax_44 : decode cX7_wax 44 = .ok (.ireturn, 1) := by decide +kernel
theorem dX7_undo_0 : decode cX7_undo 0 = .ok (.aload_n 0, 1) := by decide +kernel
theorem dX7_undo_1 : decode cX7_undo 1 = .ok (.getfield 139, 3) := by decide +kernel
theorem dX7_undo_4 : decode cX7_undo 4 = .ok (.ifCond .ne 6, 3) := by decide +kernel
theorem dX7_undo_7 : decode cX7_undo 7 = .ok (.ldc 168, 2) := by decide +kernel
theorem dX7_undo_9 : decode cX7_undo 9 = .ok (.ireturn, 1) := by decide +kernel
theorem dX7_undo_10 : decode cX7_undo 10 = .ok (.aload_n 0, 1) := by decide +kernel
theorem dX7_undo_11 : decode cX7_undo 11 = .ok (.dup, 1) := by decide +kernel
theorem dX7_undo_12 : decode cX7_undo 12 = .ok (.getfield 139, 3) := by decide +kernel
theorem dX7_undo_15 : decode cX7_undo 15 = .ok (.iconst 1, 1) := by decide +kernel
theorem dX7_undo_16 : decode cX7_undo 16 = .ok (.isub, 1) := by decide +kernel
theorem dX7_undo_17 : decode cX7_undo 17 = .ok (.putfield 139, 3) := by decide +kernel
theorem dX7_undo_20 : decode cX7_undo 20 = .ok (.iconst 0, 1) := by decide +kernel
theorem dX7_undo_21 : decode cX7_undo 21 = .ok (.istore_n 1, 1) := by decide +kernel
theorem dX7_undo_22 : decode cX7_undo 22 = .ok (.iload_n 1, 1) := by decide +kernel
theorem dX7_undo_23 : decode cX7_undo 23 = .ok (.bipush 57, 2) := by decide +kernel
theorem dX7_undo_25 : decode cX7_undo 25 = .ok (.if_icmp .ge 29, 3) := by decide +kernel
theorem dX7_undo_28 : decode cX7_undo 28 = .ok (.aload_n 0, 1) := by decide +kernel
theorem dX7_undo_29 : decode cX7_undo 29 = .ok (.getfield 19, 3) := by decide +kernel
theorem dX7_undo_32 : decode cX7_undo 32 = .ok (.iload_n 1, 1) := by decide +kernel
theorem dX7_undo_33 : decode cX7_undo 33 = .ok (.aload_n 0, 1) := by decide +kernel
theorem dX7_undo_34 : decode cX7_undo 34 = .ok (.getfield 31, 3) := by decide +kernel
theorem dX7_undo_37 : decode cX7_undo 37 = .ok (.bipush 57, 2) := by decide +kernel
theorem dX7_undo_39 : decode cX7_undo 39 = .ok (.aload_n 0, 1) := by decide +kernel
theorem dX7_undo_40 : decode cX7_undo 40 = .ok (.getfield 139, 3) := by decide +kernel
theorem dX7_undo_43 : decode cX7_undo 43 = .ok (.imul, 1) := by decide +kernel
theorem dX7_undo_44 : decode cX7_undo 44 = .ok (.iload_n 1, 1) := by decide +kernel
theorem dX7_undo_45 : decode cX7_undo 45 = .ok (.iadd, 1) := by decide +kernel
theorem dX7_undo_46 : decode cX7_undo 46 = .ok (.iaload, 1) := by decide +kernel
theorem dX7_undo_47 : decode cX7_undo 47 = .ok (.iastore, 1) := by decide +kernel
theorem dX7_undo_48 : decode cX7_undo 48 = .ok (.iinc 1 1, 3) := by decide +kernel
theorem dX7_undo_51 : decode cX7_undo 51 = .ok (.goto (-29), 3) := by decide +kernel
theorem dX7_undo_54 : decode cX7_undo 54 = .ok (.aload_n 0, 1) := by decide +kernel
theorem dX7_undo_55 : decode cX7_undo 55 = .ok (.getfield 139, 3) := by decide +kernel
theorem dX7_undo_58 : decode cX7_undo 58 = .ok (.ireturn, 1) := by decide +kernel
set_option maxRecDepth 20000 in
theorem ggX7_promise_X7_isPromise : GoodIn wsX7_promise wsX7_isPromise := goodIn_r _ [7, 2, 8, 9, 6, 10, 27, 28, 29, 30, 31, 32, 33, 34, 35, 36, 37, 38, 39, 40, 41, 42, 43, 44, 45, 46, 47, 48, 49, 50] (by decide +kernel) (by decide +kernel)
set_option maxRecDepth 20000 in
theorem gX7_promise_X7_isPromise : GoodIn wsX7_promise (wsV RX7 165 RX7 yX7_isPromise wsX7_isPromise) := goodIn_app (goodIn_of _ (by decide +kernel)) ggX7_promise_X7_isPromise
set_option maxRecDepth 20000 in
theorem ggX7_promise_X7_weightOf : GoodIn wsX7_promise wsX7_weightOf := goodIn_r _ [14, 2, 15, 16, 17, 6, 18, 19, 20, 21, 22, 23, 24, 25, 26, 27, 28, 29, 30, 31, 32, 33, 34, 35, 36, 37, 38, 39, 40, 41, 42, 43, 44, 45, 46, 47, 48, 49, 50] (by decide +kernel) (by decide +kernel)
set_option maxRecDepth 20000 in
theorem gX7_promise_X7_weightOf : GoodIn wsX7_promise (wsV RX7 156 RX7 yX7_weightOf wsX7_weightOf) := goodIn_app (goodIn_of _ (by decide +kernel)) ggX7_promise_X7_weightOf
theorem dX7_promise_0 : decode cX7_promise 0 = .ok (.aload_n 0, 1) := by decide +kernel
theorem dX7_promise_1 : decode cX7_promise 1 = .ok (.iload_n 1, 1) := by decide +kernel
theorem dX7_promise_2 : decode cX7_promise 2 = .ok (.invokevirtual 165, 3) := by decide +kernel
theorem dX7_promise_5 : decode cX7_promise 5 = .ok (.ifCond .ne 6, 3) := by decide +kernel
theorem dX7_promise_8 : decode cX7_promise 8 = .ok (.ldc 64, 2) := by decide +kernel
theorem dX7_promise_10 : decode cX7_promise 10 = .ok (.ireturn, 1) := by decide +kernel
theorem dX7_promise_11 : decode cX7_promise 11 = .ok (.iload_n 2, 1) := by decide +kernel
theorem dX7_promise_12 : decode cX7_promise 12 = .ok (.tableswitch 111 0 6 #[44, 54, 64, 74, 84, 90, 100], 44) := by decide +kernel
theorem dX7_promise_56 : decode cX7_promise 56 = .ok (.aload_n 0, 1) := by decide +kernel
theorem dX7_promise_57 : decode cX7_promise 57 = .ok (.getfield 19, 3) := by decide +kernel
theorem dX7_promise_60 : decode cX7_promise 60 = .ok (.bipush 17, 2) := by decide +kernel
theorem dX7_promise_62 : decode cX7_promise 62 = .ok (.iload_n 1, 1) := by decide +kernel
theorem dX7_promise_63 : decode cX7_promise 63 = .ok (.iadd, 1) := by decide +kernel
theorem dX7_promise_64 : decode cX7_promise 64 = .ok (.iaload, 1) := by decide +kernel
theorem dX7_promise_65 : decode cX7_promise 65 = .ok (.ireturn, 1) := by decide +kernel
theorem dX7_promise_66 : decode cX7_promise 66 = .ok (.aload_n 0, 1) := by decide +kernel
theorem dX7_promise_67 : decode cX7_promise 67 = .ok (.getfield 19, 3) := by decide +kernel
theorem dX7_promise_70 : decode cX7_promise 70 = .ok (.bipush 25, 2) := by decide +kernel
theorem dX7_promise_72 : decode cX7_promise 72 = .ok (.iload_n 1, 1) := by decide +kernel
theorem dX7_promise_73 : decode cX7_promise 73 = .ok (.iadd, 1) := by decide +kernel
theorem dX7_promise_74 : decode cX7_promise 74 = .ok (.iaload, 1) := by decide +kernel
theorem dX7_promise_75 : decode cX7_promise 75 = .ok (.ireturn, 1) := by decide +kernel
theorem dX7_promise_76 : decode cX7_promise 76 = .ok (.aload_n 0, 1) := by decide +kernel
theorem dX7_promise_77 : decode cX7_promise 77 = .ok (.getfield 19, 3) := by decide +kernel
theorem dX7_promise_80 : decode cX7_promise 80 = .ok (.bipush 33, 2) := by decide +kernel
theorem dX7_promise_82 : decode cX7_promise 82 = .ok (.iload_n 1, 1) := by decide +kernel
theorem dX7_promise_83 : decode cX7_promise 83 = .ok (.iadd, 1) := by decide +kernel
theorem dX7_promise_84 : decode cX7_promise 84 = .ok (.iaload, 1) := by decide +kernel
theorem dX7_promise_85 : decode cX7_promise 85 = .ok (.ireturn, 1) := by decide +kernel
theorem dX7_promise_86 : decode cX7_promise 86 = .ok (.aload_n 0, 1) := by decide +kernel
theorem dX7_promise_87 : decode cX7_promise 87 = .ok (.getfield 19, 3) := by decide +kernel
theorem dX7_promise_90 : decode cX7_promise 90 = .ok (.bipush 41, 2) := by decide +kernel
theorem dX7_promise_92 : decode cX7_promise 92 = .ok (.iload_n 1, 1) := by decide +kernel
theorem dX7_promise_93 : decode cX7_promise 93 = .ok (.iadd, 1) := by decide +kernel
theorem dX7_promise_94 : decode cX7_promise 94 = .ok (.iaload, 1) := by decide +kernel
theorem dX7_promise_95 : decode cX7_promise 95 = .ok (.ireturn, 1) := by decide +kernel
theorem dX7_promise_96 : decode cX7_promise 96 = .ok (.aload_n 0, 1) := by decide +kernel
theorem dX7_promise_97 : decode cX7_promise 97 = .ok (.iload_n 1, 1) := by decide +kernel
theorem dX7_promise_98 : decode cX7_promise 98 = .ok (.invokevirtual 156, 3) := by decide +kernel
theorem dX7_promise_101 : decode cX7_promise 101 = .ok (.ireturn, 1) := by decide +kernel
theorem dX7_promise_102 : decode cX7_promise 102 = .ok (.aload_n 0, 1) := by decide +kernel
theorem dX7_promise_103 : decode cX7_promise 103 = .ok (.getfield 19, 3) := by decide +kernel
theorem dX7_promise_106 : decode cX7_promise 106 = .ok (.bipush 49, 2) := by decide +kernel
theorem dX7_promise_108 : decode cX7_promise 108 = .ok (.iload_n 1, 1) := by decide +kernel
theorem dX7_promise_109 : decode cX7_promise 109 = .ok (.iadd, 1) := by decide +kernel
theorem dX7_promise_110 : decode cX7_promise 110 = .ok (.iaload, 1) := by decide +kernel
theorem dX7_promise_111 : decode cX7_promise 111 = .ok (.ireturn, 1) := by decide +kernel
theorem dX7_promise_112 : decode cX7_promise 112 = .ok (.aload_n 0, 1) := by decide +kernel
theorem dX7_promise_113 : decode cX7_promise 113 = .ok (.getfield 19, 3) := by decide +kernel
theorem dX7_promise_116 : decode cX7_promise 116 = .ok (.iconst 4, 1) := by decide +kernel
theorem dX7_promise_117 : decode cX7_promise 117 = .ok (.iaload, 1) := by decide +kernel
theorem dX7_promise_118 : decode cX7_promise 118 = .ok (.iload_n 1, 1) := by decide +kernel
theorem dX7_promise_119 : decode cX7_promise 119 = .ok (.ishr, 1) := by decide +kernel
theorem dX7_promise_120 : decode cX7_promise 120 = .ok (.iconst 1, 1) := by decide +kernel
theorem dX7_promise_121 : decode cX7_promise 121 = .ok (.iand, 1) := by decide +kernel
theorem dX7_promise_122 : decode cX7_promise 122 = .ok (.ireturn, 1) := by decide +kernel
theorem dX7_promise_123 : decode cX7_promise 123 = .ok (.ldc 64, 2) := by decide +kernel
theorem dX7_promise_125 : decode cX7_promise 125 = .ok (.ireturn, 1) := by decide +kernel
set_option maxRecDepth 20000 in
theorem ggX7_isGiver_X7_in : GoodIn wsX7_isGiver wsX7_in := goodIn_r _ [5] (by decide +kernel) (by decide +kernel)
set_option maxRecDepth 20000 in
theorem gX7_isGiver_X7_in : GoodIn wsX7_isGiver (va_wsS RX7 54 yX7_in wsX7_in) := goodIn_app (goodIn_of _ (by decide +kernel)) ggX7_isGiver_X7_in
theorem dX7_isGiver_0 : decode cX7_isGiver 0 = .ok (.iload_n 1, 1) := by decide +kernel
theorem dX7_isGiver_1 : decode cX7_isGiver 1 = .ok (.i2l, 1) := by decide +kernel
theorem dX7_isGiver_2 : decode cX7_isGiver 2 = .ok (.lconst 0, 1) := by decide +kernel
theorem dX7_isGiver_3 : decode cX7_isGiver 3 = .ok (.aload_n 0, 1) := by decide +kernel
theorem dX7_isGiver_4 : decode cX7_isGiver 4 = .ok (.getfield 19, 3) := by decide +kernel
theorem dX7_isGiver_7 : decode cX7_isGiver 7 = .ok (.iconst 2, 1) := by decide +kernel
theorem dX7_isGiver_8 : decode cX7_isGiver 8 = .ok (.iaload, 1) := by decide +kernel
theorem dX7_isGiver_9 : decode cX7_isGiver 9 = .ok (.iconst 1, 1) := by decide +kernel
theorem dX7_isGiver_10 : decode cX7_isGiver 10 = .ok (.isub, 1) := by decide +kernel
theorem dX7_isGiver_11 : decode cX7_isGiver 11 = .ok (.i2l, 1) := by decide +kernel
theorem dX7_isGiver_12 : decode cX7_isGiver 12 = .ok (.invokestatic 54, 3) := by decide +kernel
theorem dX7_isGiver_15 : decode cX7_isGiver 15 = .ok (.ireturn, 1) := by decide +kernel
set_option maxRecDepth 20000 in
theorem ggX7_keeps_X7_isGiver : GoodIn wsX7_keeps wsX7_isGiver := goodIn_r _ [7, 1, 8, 9, 6, 10, 11, 12, 13, 14, 15, 16, 17, 18, 19, 20, 21, 22, 23, 24, 25, 26, 27, 28, 29, 30, 31, 32, 33, 34] (by decide +kernel) (by decide +kernel)
set_option maxRecDepth 20000 in
theorem gX7_keeps_X7_isGiver : GoodIn wsX7_keeps (wsV RX7 181 RX7 yX7_isGiver wsX7_isGiver) := goodIn_app (goodIn_of _ (by decide +kernel)) ggX7_keeps_X7_isGiver
theorem dX7_keeps_0 : decode cX7_keeps 0 = .ok (.aload_n 0, 1) := by decide +kernel
theorem dX7_keeps_1 : decode cX7_keeps 1 = .ok (.iload_n 1, 1) := by decide +kernel
theorem dX7_keeps_2 : decode cX7_keeps 2 = .ok (.invokevirtual 181, 3) := by decide +kernel
theorem dX7_keeps_5 : decode cX7_keeps 5 = .ok (.ifCond .eq 14, 3) := by decide +kernel
theorem dX7_keeps_8 : decode cX7_keeps 8 = .ok (.aload_n 0, 1) := by decide +kernel
theorem dX7_keeps_9 : decode cX7_keeps 9 = .ok (.getfield 19, 3) := by decide +kernel
theorem dX7_keeps_12 : decode cX7_keeps 12 = .ok (.iconst 5, 1) := by decide +kernel
theorem dX7_keeps_13 : decode cX7_keeps 13 = .ok (.iload_n 1, 1) := by decide +kernel
theorem dX7_keeps_14 : decode cX7_keeps 14 = .ok (.iadd, 1) := by decide +kernel
theorem dX7_keeps_15 : decode cX7_keeps 15 = .ok (.iaload, 1) := by decide +kernel
theorem dX7_keeps_16 : decode cX7_keeps 16 = .ok (.goto 5, 3) := by decide +kernel
theorem dX7_keeps_19 : decode cX7_keeps 19 = .ok (.ldc 64, 2) := by decide +kernel
theorem dX7_keeps_21 : decode cX7_keeps 21 = .ok (.ireturn, 1) := by decide +kernel
set_option maxRecDepth 20000 in
theorem ggX7_isSet_X7_in : GoodIn wsX7_isSet wsX7_in := goodIn_r _ [5] (by decide +kernel) (by decide +kernel)
set_option maxRecDepth 20000 in
theorem gX7_isSet_X7_in : GoodIn wsX7_isSet (va_wsS RX7 54 yX7_in wsX7_in) := goodIn_app (goodIn_of _ (by decide +kernel)) ggX7_isSet_X7_in
theorem dX7_isSet_0 : decode cX7_isSet 0 = .ok (.iload_n 1, 1) := by decide +kernel
theorem dX7_isSet_1 : decode cX7_isSet 1 = .ok (.i2l, 1) := by decide +kernel
theorem dX7_isSet_2 : decode cX7_isSet 2 = .ok (.lconst 0, 1) := by decide +kernel
theorem dX7_isSet_3 : decode cX7_isSet 3 = .ok (.iconst 1, 1) := by decide +kernel
theorem dX7_isSet_4 : decode cX7_isSet 4 = .ok (.aload_n 0, 1) := by decide +kernel
theorem dX7_isSet_5 : decode cX7_isSet 5 = .ok (.getfield 19, 3) := by decide +kernel
theorem dX7_isSet_8 : decode cX7_isSet 8 = .ok (.iconst 3, 1) := by decide +kernel
theorem dX7_isSet_9 : decode cX7_isSet 9 = .ok (.iaload, 1) := by decide +kernel
theorem dX7_isSet_10 : decode cX7_isSet 10 = .ok (.ishl, 1) := by decide +kernel
theorem dX7_isSet_11 : decode cX7_isSet 11 = .ok (.iconst 1, 1) := by decide +kernel
theorem dX7_isSet_12 : decode cX7_isSet 12 = .ok (.isub, 1) := by decide +kernel
theorem dX7_isSet_13 : decode cX7_isSet 13 = .ok (.i2l, 1) := by decide +kernel
theorem dX7_isSet_14 : decode cX7_isSet 14 = .ok (.invokestatic 54, 3) := by decide +kernel
theorem dX7_isSet_17 : decode cX7_isSet 17 = .ok (.ireturn, 1) := by decide +kernel
set_option maxRecDepth 20000 in
theorem ggX7_reads_X7_isSet : GoodIn wsX7_reads wsX7_isSet := goodIn_r _ [8, 9, 10, 11, 7, 12, 43, 44, 45, 46, 47, 48, 49, 50, 51, 52, 53, 54, 55, 56, 57, 58, 59, 60, 61, 62, 63, 64, 65, 66] (by decide +kernel) (by decide +kernel)
set_option maxRecDepth 20000 in
theorem gX7_reads_X7_isSet : GoodIn wsX7_reads (wsV RX7 184 RX7 yX7_isSet wsX7_isSet) := goodIn_app (goodIn_of _ (by decide +kernel)) ggX7_reads_X7_isSet
set_option maxRecDepth 20000 in
theorem ggX7_reads_X7_readOf : GoodIn wsX7_reads wsX7_readOf := goodIn_r _ [16, 9, 17, 18, 19, 7, 20, 21, 22, 23, 24, 25, 26, 27, 28, 29, 30, 31, 32, 33, 34, 35, 36, 37, 38, 39, 40, 41, 42, 43, 44, 45, 46, 47, 48, 49, 50, 51, 52, 53, 54, 55, 56, 57, 58, 59, 60, 61, 62, 63, 64, 65, 66] (by decide +kernel) (by decide +kernel)
set_option maxRecDepth 20000 in
theorem gX7_reads_X7_readOf : GoodIn wsX7_reads (wsV RX7 172 RX7 yX7_readOf wsX7_readOf) := goodIn_app (goodIn_of _ (by decide +kernel)) ggX7_reads_X7_readOf
theorem dX7_reads_0 : decode cX7_reads 0 = .ok (.aload_n 0, 1) := by decide +kernel
theorem dX7_reads_1 : decode cX7_reads 1 = .ok (.getfield 135, 3) := by decide +kernel
theorem dX7_reads_4 : decode cX7_reads 4 = .ok (.ifCond .ne 6, 3) := by decide +kernel
theorem dX7_reads_7 : decode cX7_reads 7 = .ok (.ldc 168, 2) := by decide +kernel
theorem dX7_reads_9 : decode cX7_reads 9 = .ok (.ireturn, 1) := by decide +kernel
theorem dX7_reads_10 : decode cX7_reads 10 = .ok (.aload_n 0, 1) := by decide +kernel
theorem dX7_reads_11 : decode cX7_reads 11 = .ok (.iload_n 1, 1) := by decide +kernel
theorem dX7_reads_12 : decode cX7_reads 12 = .ok (.invokevirtual 184, 3) := by decide +kernel
theorem dX7_reads_15 : decode cX7_reads 15 = .ok (.ifCond .eq 11, 3) := by decide +kernel
theorem dX7_reads_18 : decode cX7_reads 18 = .ok (.aload_n 0, 1) := by decide +kernel
theorem dX7_reads_19 : decode cX7_reads 19 = .ok (.iload_n 1, 1) := by decide +kernel
theorem dX7_reads_20 : decode cX7_reads 20 = .ok (.invokevirtual 172, 3) := by decide +kernel
theorem dX7_reads_23 : decode cX7_reads 23 = .ok (.goto 5, 3) := by decide +kernel
theorem dX7_reads_26 : decode cX7_reads 26 = .ok (.ldc 64, 2) := by decide +kernel
theorem dX7_reads_28 : decode cX7_reads 28 = .ok (.ireturn, 1) := by decide +kernel
set_option maxRecDepth 20000 in
theorem ggX7_clashes_X7_isOpen : GoodIn wsX7_clashes wsX7_isOpen := goodIn_r _ [6, 1, 7, 8, 9, 10, 11, 12, 13, 14, 15, 16, 17, 18, 19, 20, 21, 22, 23, 24, 25, 26, 27, 28, 29, 30] (by decide +kernel) (by decide +kernel)
set_option maxRecDepth 20000 in
theorem gX7_clashes_X7_isOpen : GoodIn wsX7_clashes (wsV RX7 145 RX7 yX7_isOpen wsX7_isOpen) := goodIn_app (goodIn_of _ (by decide +kernel)) ggX7_clashes_X7_isOpen
theorem dX7_clashes_0 : decode cX7_clashes 0 = .ok (.aload_n 0, 1) := by decide +kernel
theorem dX7_clashes_1 : decode cX7_clashes 1 = .ok (.iload_n 1, 1) := by decide +kernel
theorem dX7_clashes_2 : decode cX7_clashes 2 = .ok (.invokevirtual 145, 3) := by decide +kernel
theorem dX7_clashes_5 : decode cX7_clashes 5 = .ok (.ifCond .eq 78, 3) := by decide +kernel
theorem dX7_clashes_8 : decode cX7_clashes 8 = .ok (.aload_n 0, 1) := by decide +kernel
theorem dX7_clashes_9 : decode cX7_clashes 9 = .ok (.iload_n 2, 1) := by decide +kernel
theorem dX7_clashes_10 : decode cX7_clashes 10 = .ok (.invokevirtual 145, 3) := by decide +kernel
theorem dX7_clashes_13 : decode cX7_clashes 13 = .ok (.ifCond .eq 70, 3) := by decide +kernel
theorem dX7_clashes_16 : decode cX7_clashes 16 = .ok (.aload_n 0, 1) := by decide +kernel
theorem dX7_clashes_17 : decode cX7_clashes 17 = .ok (.getfield 19, 3) := by decide +kernel
theorem dX7_clashes_20 : decode cX7_clashes 20 = .ok (.bipush 17, 2) := by decide +kernel
theorem dX7_clashes_22 : decode cX7_clashes 22 = .ok (.iload_n 1, 1) := by decide +kernel
theorem dX7_clashes_23 : decode cX7_clashes 23 = .ok (.iadd, 1) := by decide +kernel
theorem dX7_clashes_24 : decode cX7_clashes 24 = .ok (.iaload, 1) := by decide +kernel
theorem dX7_clashes_25 : decode cX7_clashes 25 = .ok (.aload_n 0, 1) := by decide +kernel
theorem dX7_clashes_26 : decode cX7_clashes 26 = .ok (.getfield 19, 3) := by decide +kernel
theorem dX7_clashes_29 : decode cX7_clashes 29 = .ok (.bipush 17, 2) := by decide +kernel
theorem dX7_clashes_31 : decode cX7_clashes 31 = .ok (.iload_n 2, 1) := by decide +kernel
theorem dX7_clashes_32 : decode cX7_clashes 32 = .ok (.iadd, 1) := by decide +kernel
theorem dX7_clashes_33 : decode cX7_clashes 33 = .ok (.iaload, 1) := by decide +kernel
theorem dX7_clashes_34 : decode cX7_clashes 34 = .ok (.if_icmp .ne 49, 3) := by decide +kernel
theorem dX7_clashes_37 : decode cX7_clashes 37 = .ok (.aload_n 0, 1) := by decide +kernel
theorem dX7_clashes_38 : decode cX7_clashes 38 = .ok (.getfield 19, 3) := by decide +kernel
theorem dX7_clashes_41 : decode cX7_clashes 41 = .ok (.bipush 33, 2) := by decide +kernel
theorem dX7_clashes_43 : decode cX7_clashes 43 = .ok (.iload_n 1, 1) := by decide +kernel
theorem dX7_clashes_44 : decode cX7_clashes 44 = .ok (.iadd, 1) := by decide +kernel
theorem dX7_clashes_45 : decode cX7_clashes 45 = .ok (.iaload, 1) := by decide +kernel
theorem dX7_clashes_46 : decode cX7_clashes 46 = .ok (.aload_n 0, 1) := by decide +kernel
theorem dX7_clashes_47 : decode cX7_clashes 47 = .ok (.getfield 19, 3) := by decide +kernel
theorem dX7_clashes_50 : decode cX7_clashes 50 = .ok (.bipush 33, 2) := by decide +kernel
theorem dX7_clashes_52 : decode cX7_clashes 52 = .ok (.iload_n 2, 1) := by decide +kernel
theorem dX7_clashes_53 : decode cX7_clashes 53 = .ok (.iadd, 1) := by decide +kernel
theorem dX7_clashes_54 : decode cX7_clashes 54 = .ok (.iaload, 1) := by decide +kernel
theorem dX7_clashes_55 : decode cX7_clashes 55 = .ok (.if_icmp .ne 28, 3) := by decide +kernel
theorem dX7_clashes_58 : decode cX7_clashes 58 = .ok (.aload_n 0, 1) := by decide +kernel
theorem dX7_clashes_59 : decode cX7_clashes 59 = .ok (.getfield 19, 3) := by decide +kernel
theorem dX7_clashes_62 : decode cX7_clashes 62 = .ok (.bipush 25, 2) := by decide +kernel
theorem dX7_clashes_64 : decode cX7_clashes 64 = .ok (.iload_n 1, 1) := by decide +kernel
theorem dX7_clashes_65 : decode cX7_clashes 65 = .ok (.iadd, 1) := by decide +kernel
theorem dX7_clashes_66 : decode cX7_clashes 66 = .ok (.iaload, 1) := by decide +kernel
theorem dX7_clashes_67 : decode cX7_clashes 67 = .ok (.aload_n 0, 1) := by decide +kernel
theorem dX7_clashes_68 : decode cX7_clashes 68 = .ok (.getfield 19, 3) := by decide +kernel
theorem dX7_clashes_71 : decode cX7_clashes 71 = .ok (.bipush 25, 2) := by decide +kernel
theorem dX7_clashes_73 : decode cX7_clashes 73 = .ok (.iload_n 2, 1) := by decide +kernel
theorem dX7_clashes_74 : decode cX7_clashes 74 = .ok (.iadd, 1) := by decide +kernel
theorem dX7_clashes_75 : decode cX7_clashes 75 = .ok (.iaload, 1) := by decide +kernel
theorem dX7_clashes_76 : decode cX7_clashes 76 = .ok (.if_icmp .eq 7, 3) := by decide +kernel
theorem dX7_clashes_79 : decode cX7_clashes 79 = .ok (.iconst 1, 1) := by decide +kernel
theorem dX7_clashes_80 : decode cX7_clashes 80 = .ok (.goto 4, 3) := by decide +kernel
theorem dX7_clashes_83 : decode cX7_clashes 83 = .ok (.iconst 0, 1) := by decide +kernel
theorem dX7_clashes_84 : decode cX7_clashes 84 = .ok (.ireturn, 1) := by decide +kernel
set_option maxRecDepth 20000 in
theorem ggX7_clash_X7_in : GoodIn wsX7_clash wsX7_in := goodIn_r _ [9] (by decide +kernel) (by decide +kernel)
set_option maxRecDepth 20000 in
theorem gX7_clash_X7_in : GoodIn wsX7_clash (va_wsS RX7 54 yX7_in wsX7_in) := goodIn_app (goodIn_of _ (by decide +kernel)) ggX7_clash_X7_in
set_option maxRecDepth 20000 in
theorem ggX7_clash_X7_clashes : GoodIn wsX7_clash wsX7_clashes := goodIn_r _ [13, 5, 14, 15, 16, 8, 17, 18, 19, 20, 21, 22, 23, 24, 25, 26, 27, 28, 29, 30, 31, 32, 33, 34, 35, 36, 37, 38, 39, 40, 41] (by decide +kernel) (by decide +kernel)
set_option maxRecDepth 20000 in
theorem gX7_clash_X7_clashes : GoodIn wsX7_clash (wsV RX7 188 RX7 yX7_clashes wsX7_clashes) := goodIn_app (goodIn_of _ (by decide +kernel)) ggX7_clash_X7_clashes
theorem dX7_clash_0 : decode cX7_clash 0 = .ok (.aload_n 0, 1) := by decide +kernel
theorem dX7_clash_1 : decode cX7_clash 1 = .ok (.getfield 135, 3) := by decide +kernel
theorem dX7_clash_4 : decode cX7_clash 4 = .ok (.ifCond .ne 6, 3) := by decide +kernel
theorem dX7_clash_7 : decode cX7_clash 7 = .ok (.ldc 168, 2) := by decide +kernel
theorem dX7_clash_9 : decode cX7_clash 9 = .ok (.ireturn, 1) := by decide +kernel
theorem dX7_clash_10 : decode cX7_clash 10 = .ok (.iload_n 1, 1) := by decide +kernel
theorem dX7_clash_11 : decode cX7_clash 11 = .ok (.i2l, 1) := by decide +kernel
theorem dX7_clash_12 : decode cX7_clash 12 = .ok (.lconst 0, 1) := by decide +kernel
theorem dX7_clash_13 : decode cX7_clash 13 = .ok (.lconst 1, 1) := by decide +kernel
theorem dX7_clash_14 : decode cX7_clash 14 = .ok (.invokestatic 54, 3) := by decide +kernel
theorem dX7_clash_17 : decode cX7_clash 17 = .ok (.ifCond .ne 6, 3) := by decide +kernel
theorem dX7_clash_20 : decode cX7_clash 20 = .ok (.ldc 64, 2) := by decide +kernel
theorem dX7_clash_22 : decode cX7_clash 22 = .ok (.ireturn, 1) := by decide +kernel
theorem dX7_clash_23 : decode cX7_clash 23 = .ok (.iconst 0, 1) := by decide +kernel
theorem dX7_clash_24 : decode cX7_clash 24 = .ok (.istore_n 2, 1) := by decide +kernel
theorem dX7_clash_25 : decode cX7_clash 25 = .ok (.ldc 187, 2) := by decide +kernel
theorem dX7_clash_27 : decode cX7_clash 27 = .ok (.istore_n 3, 1) := by decide +kernel
theorem dX7_clash_28 : decode cX7_clash 28 = .ok (.aload_n 0, 1) := by decide +kernel
theorem dX7_clash_29 : decode cX7_clash 29 = .ok (.getfield 19, 3) := by decide +kernel
theorem dX7_clash_32 : decode cX7_clash 32 = .ok (.iconst 3, 1) := by decide +kernel
theorem dX7_clash_33 : decode cX7_clash 33 = .ok (.iaload, 1) := by decide +kernel
theorem dX7_clash_34 : decode cX7_clash 34 = .ok (.iconst 1, 1) := by decide +kernel
theorem dX7_clash_35 : decode cX7_clash 35 = .ok (.isub, 1) := by decide +kernel
theorem dX7_clash_36 : decode cX7_clash 36 = .ok (.istore 4, 2) := by decide +kernel
theorem dX7_clash_38 : decode cX7_clash 38 = .ok (.iload 4, 2) := by decide +kernel
theorem dX7_clash_40 : decode cX7_clash 40 = .ok (.ifCond .lt 75, 3) := by decide +kernel
theorem dX7_clash_43 : decode cX7_clash 43 = .ok (.aload_n 0, 1) := by decide +kernel
theorem dX7_clash_44 : decode cX7_clash 44 = .ok (.getfield 19, 3) := by decide +kernel
theorem dX7_clash_47 : decode cX7_clash 47 = .ok (.iconst 3, 1) := by decide +kernel
theorem dX7_clash_48 : decode cX7_clash 48 = .ok (.iaload, 1) := by decide +kernel
theorem dX7_clash_49 : decode cX7_clash 49 = .ok (.iconst 1, 1) := by decide +kernel
theorem dX7_clash_50 : decode cX7_clash 50 = .ok (.isub, 1) := by decide +kernel
theorem dX7_clash_51 : decode cX7_clash 51 = .ok (.istore 5, 2) := by decide +kernel
theorem dX7_clash_53 : decode cX7_clash 53 = .ok (.iload 5, 2) := by decide +kernel
theorem dX7_clash_55 : decode cX7_clash 55 = .ok (.iload 4, 2) := by decide +kernel
theorem dX7_clash_57 : decode cX7_clash 57 = .ok (.if_icmp .le 52, 3) := by decide +kernel
theorem dX7_clash_60 : decode cX7_clash 60 = .ok (.iload_n 2, 1) := by decide +kernel
theorem dX7_clash_61 : decode cX7_clash 61 = .ok (.aload_n 0, 1) := by decide +kernel
theorem dX7_clash_62 : decode cX7_clash 62 = .ok (.iload 4, 2) := by decide +kernel
theorem dX7_clash_64 : decode cX7_clash 64 = .ok (.iload 5, 2) := by decide +kernel
theorem dX7_clash_66 : decode cX7_clash 66 = .ok (.invokevirtual 188, 3) := by decide +kernel
theorem dX7_clash_69 : decode cX7_clash 69 = .ok (.ifCond .eq 7, 3) := by decide +kernel
theorem dX7_clash_72 : decode cX7_clash 72 = .ok (.iconst 1, 1) := by decide +kernel
theorem dX7_clash_73 : decode cX7_clash 73 = .ok (.goto 4, 3) := by decide +kernel
theorem dX7_clash_76 : decode cX7_clash 76 = .ok (.iconst 0, 1) := by decide +kernel
theorem dX7_clash_77 : decode cX7_clash 77 = .ok (.iadd, 1) := by decide +kernel
theorem dX7_clash_78 : decode cX7_clash 78 = .ok (.istore_n 2, 1) := by decide +kernel
theorem dX7_clash_79 : decode cX7_clash 79 = .ok (.aload_n 0, 1) := by decide +kernel
theorem dX7_clash_80 : decode cX7_clash 80 = .ok (.iload 4, 2) := by decide +kernel
theorem dX7_clash_82 : decode cX7_clash 82 = .ok (.iload 5, 2) := by decide +kernel
theorem dX7_clash_84 : decode cX7_clash 84 = .ok (.invokevirtual 188, 3) := by decide +kernel
theorem dX7_clash_87 : decode cX7_clash 87 = .ok (.ifCond .eq 14, 3) := by decide +kernel
theorem dX7_clash_90 : decode cX7_clash 90 = .ok (.bipush 8, 2) := by decide +kernel
theorem dX7_clash_92 : decode cX7_clash 92 = .ok (.iload 4, 2) := by decide +kernel
theorem dX7_clash_94 : decode cX7_clash 94 = .ok (.imul, 1) := by decide +kernel
theorem dX7_clash_95 : decode cX7_clash 95 = .ok (.iload 5, 2) := by decide +kernel
theorem dX7_clash_97 : decode cX7_clash 97 = .ok (.iadd, 1) := by decide +kernel
theorem dX7_clash_98 : decode cX7_clash 98 = .ok (.goto 4, 3) := by decide +kernel
theorem dX7_clash_101 : decode cX7_clash 101 = .ok (.iload_n 3, 1) := by decide +kernel
theorem dX7_clash_102 : decode cX7_clash 102 = .ok (.istore_n 3, 1) := by decide +kernel
theorem dX7_clash_103 : decode cX7_clash 103 = .ok (.iinc 5 (-1), 3) := by decide +kernel
theorem dX7_clash_106 : decode cX7_clash 106 = .ok (.goto (-53), 3) := by decide +kernel
theorem dX7_clash_109 : decode cX7_clash 109 = .ok (.iinc 4 (-1), 3) := by decide +kernel
theorem dX7_clash_112 : decode cX7_clash 112 = .ok (.goto (-74), 3) := by decide +kernel
theorem dX7_clash_115 : decode cX7_clash 115 = .ok (.iload_n 1, 1) := by decide +kernel
theorem dX7_clash_116 : decode cX7_clash 116 = .ok (.ifCond .ne 7, 3) := by decide +kernel
theorem dX7_clash_119 : decode cX7_clash 119 = .ok (.iload_n 2, 1) := by decide +kernel
theorem dX7_clash_120 : decode cX7_clash 120 = .ok (.goto 4, 3) := by decide +kernel
theorem dX7_clash_123 : decode cX7_clash 123 = .ok (.iload_n 3, 1) := by decide +kernel
theorem dX7_clash_124 : decode cX7_clash 124 = .ok (.ireturn, 1) := by decide +kernel
set_option maxRecDepth 20000 in
theorem ggX7_isBag_X7_has : GoodIn wsX7_isBag wsX7_has := goodIn_r _ [5] (by decide +kernel) (by decide +kernel)
set_option maxRecDepth 20000 in
theorem gX7_isBag_X7_has : GoodIn wsX7_isBag (va_wsS RX7 152 yX7_has wsX7_has) := goodIn_app (goodIn_of _ (by decide +kernel)) ggX7_isBag_X7_has
set_option maxRecDepth 20000 in
theorem ggX7_isBag_X7_isOpen : GoodIn wsX7_isBag wsX7_isOpen := goodIn_r _ [9, 1, 14, 15, 16, 17, 18, 19, 20, 21, 22, 23, 24, 25, 26, 27, 28, 29, 30, 31, 32, 33, 34, 35, 36, 37] (by decide +kernel) (by decide +kernel)
set_option maxRecDepth 20000 in
theorem gX7_isBag_X7_isOpen : GoodIn wsX7_isBag (wsV RX7 145 RX7 yX7_isOpen wsX7_isOpen) := goodIn_app (goodIn_of _ (by decide +kernel)) ggX7_isBag_X7_isOpen
set_option maxRecDepth 20000 in
theorem ggX7_isBag_X7_clashes : GoodIn wsX7_isBag wsX7_clashes := goodIn_r _ [13, 1, 6, 7, 8, 4, 9, 14, 15, 16, 17, 18, 19, 20, 21, 22, 23, 24, 25, 26, 27, 28, 29, 30, 31, 32, 33, 34, 35, 36, 37] (by decide +kernel) (by decide +kernel)
set_option maxRecDepth 20000 in
theorem gX7_isBag_X7_clashes : GoodIn wsX7_isBag (wsV RX7 188 RX7 yX7_clashes wsX7_clashes) := goodIn_app (goodIn_of _ (by decide +kernel)) ggX7_isBag_X7_clashes
theorem dX7_isBag_0 : decode cX7_isBag 0 = .ok (.iconst 1, 1) := by decide +kernel
theorem dX7_isBag_1 : decode cX7_isBag 1 = .ok (.istore_n 2, 1) := by decide +kernel
theorem dX7_isBag_2 : decode cX7_isBag 2 = .ok (.iconst 0, 1) := by decide +kernel
theorem dX7_isBag_3 : decode cX7_isBag 3 = .ok (.istore_n 3, 1) := by decide +kernel
theorem dX7_isBag_4 : decode cX7_isBag 4 = .ok (.iload_n 3, 1) := by decide +kernel
theorem dX7_isBag_5 : decode cX7_isBag 5 = .ok (.aload_n 0, 1) := by decide +kernel
theorem dX7_isBag_6 : decode cX7_isBag 6 = .ok (.getfield 19, 3) := by decide +kernel
theorem dX7_isBag_9 : decode cX7_isBag 9 = .ok (.iconst 3, 1) := by decide +kernel
theorem dX7_isBag_10 : decode cX7_isBag 10 = .ok (.iaload, 1) := by decide +kernel
theorem dX7_isBag_11 : decode cX7_isBag 11 = .ok (.if_icmp .ge 94, 3) := by decide +kernel
theorem dX7_isBag_14 : decode cX7_isBag 14 = .ok (.iload_n 2, 1) := by decide +kernel
theorem dX7_isBag_15 : decode cX7_isBag 15 = .ok (.ifCond .eq 23, 3) := by decide +kernel
theorem dX7_isBag_18 : decode cX7_isBag 18 = .ok (.iload_n 1, 1) := by decide +kernel
theorem dX7_isBag_19 : decode cX7_isBag 19 = .ok (.iload_n 3, 1) := by decide +kernel
theorem dX7_isBag_20 : decode cX7_isBag 20 = .ok (.invokestatic 152, 3) := by decide +kernel
theorem dX7_isBag_23 : decode cX7_isBag 23 = .ok (.ifCond .eq 11, 3) := by decide +kernel
theorem dX7_isBag_26 : decode cX7_isBag 26 = .ok (.aload_n 0, 1) := by decide +kernel
theorem dX7_isBag_27 : decode cX7_isBag 27 = .ok (.iload_n 3, 1) := by decide +kernel
theorem dX7_isBag_28 : decode cX7_isBag 28 = .ok (.invokevirtual 145, 3) := by decide +kernel
theorem dX7_isBag_31 : decode cX7_isBag 31 = .ok (.ifCond .eq 7, 3) := by decide +kernel
theorem dX7_isBag_34 : decode cX7_isBag 34 = .ok (.iconst 1, 1) := by decide +kernel
theorem dX7_isBag_35 : decode cX7_isBag 35 = .ok (.goto 4, 3) := by decide +kernel
theorem dX7_isBag_38 : decode cX7_isBag 38 = .ok (.iconst 0, 1) := by decide +kernel
theorem dX7_isBag_39 : decode cX7_isBag 39 = .ok (.istore_n 2, 1) := by decide +kernel
theorem dX7_isBag_40 : decode cX7_isBag 40 = .ok (.iload_n 3, 1) := by decide +kernel
theorem dX7_isBag_41 : decode cX7_isBag 41 = .ok (.iconst 1, 1) := by decide +kernel
theorem dX7_isBag_42 : decode cX7_isBag 42 = .ok (.iadd, 1) := by decide +kernel
theorem dX7_isBag_43 : decode cX7_isBag 43 = .ok (.istore 4, 2) := by decide +kernel
theorem dX7_isBag_45 : decode cX7_isBag 45 = .ok (.iload 4, 2) := by decide +kernel
theorem dX7_isBag_47 : decode cX7_isBag 47 = .ok (.aload_n 0, 1) := by decide +kernel
theorem dX7_isBag_48 : decode cX7_isBag 48 = .ok (.getfield 19, 3) := by decide +kernel
theorem dX7_isBag_51 : decode cX7_isBag 51 = .ok (.iconst 3, 1) := by decide +kernel
theorem dX7_isBag_52 : decode cX7_isBag 52 = .ok (.iaload, 1) := by decide +kernel
theorem dX7_isBag_53 : decode cX7_isBag 53 = .ok (.if_icmp .ge 46, 3) := by decide +kernel
theorem dX7_isBag_56 : decode cX7_isBag 56 = .ok (.iload_n 2, 1) := by decide +kernel
theorem dX7_isBag_57 : decode cX7_isBag 57 = .ok (.ifCond .eq 34, 3) := by decide +kernel
theorem dX7_isBag_60 : decode cX7_isBag 60 = .ok (.iload_n 1, 1) := by decide +kernel
theorem dX7_isBag_61 : decode cX7_isBag 61 = .ok (.iload_n 3, 1) := by decide +kernel
theorem dX7_isBag_62 : decode cX7_isBag 62 = .ok (.invokestatic 152, 3) := by decide +kernel
theorem dX7_isBag_65 : decode cX7_isBag 65 = .ok (.ifCond .eq 22, 3) := by decide +kernel
theorem dX7_isBag_68 : decode cX7_isBag 68 = .ok (.iload_n 1, 1) := by decide +kernel
theorem dX7_isBag_69 : decode cX7_isBag 69 = .ok (.iload 4, 2) := by decide +kernel
theorem dX7_isBag_71 : decode cX7_isBag 71 = .ok (.invokestatic 152, 3) := by decide +kernel
theorem dX7_isBag_74 : decode cX7_isBag 74 = .ok (.ifCond .eq 13, 3) := by decide +kernel
theorem dX7_isBag_77 : decode cX7_isBag 77 = .ok (.aload_n 0, 1) := by decide +kernel
theorem dX7_isBag_78 : decode cX7_isBag 78 = .ok (.iload_n 3, 1) := by decide +kernel
theorem dX7_isBag_79 : decode cX7_isBag 79 = .ok (.iload 4, 2) := by decide +kernel
theorem dX7_isBag_81 : decode cX7_isBag 81 = .ok (.invokevirtual 188, 3) := by decide +kernel
theorem dX7_isBag_84 : decode cX7_isBag 84 = .ok (.ifCond .ne 7, 3) := by decide +kernel
theorem dX7_isBag_87 : decode cX7_isBag 87 = .ok (.iconst 1, 1) := by decide +kernel
theorem dX7_isBag_88 : decode cX7_isBag 88 = .ok (.goto 4, 3) := by decide +kernel
theorem dX7_isBag_91 : decode cX7_isBag 91 = .ok (.iconst 0, 1) := by decide +kernel
theorem dX7_isBag_92 : decode cX7_isBag 92 = .ok (.istore_n 2, 1) := by decide +kernel
theorem dX7_isBag_93 : decode cX7_isBag 93 = .ok (.iinc 4 1, 3) := by decide +kernel
theorem dX7_isBag_96 : decode cX7_isBag 96 = .ok (.goto (-51), 3) := by decide +kernel
theorem dX7_isBag_99 : decode cX7_isBag 99 = .ok (.iinc 3 1, 3) := by decide +kernel
theorem dX7_isBag_102 : decode cX7_isBag 102 = .ok (.goto (-98), 3) := by decide +kernel
theorem dX7_isBag_105 : decode cX7_isBag 105 = .ok (.iload_n 2, 1) := by decide +kernel
theorem dX7_isBag_106 : decode cX7_isBag 106 = .ok (.ireturn, 1) := by decide +kernel
set_option maxRecDepth 20000 in
theorem ggX7_bags_X7_in : GoodIn wsX7_bags wsX7_in := goodIn_r _ [10] (by decide +kernel) (by decide +kernel)
set_option maxRecDepth 20000 in
theorem gX7_bags_X7_in : GoodIn wsX7_bags (va_wsS RX7 54 yX7_in wsX7_in) := goodIn_app (goodIn_of _ (by decide +kernel)) ggX7_bags_X7_in
set_option maxRecDepth 20000 in
theorem ggX7_bags_X7_readOf : GoodIn wsX7_bags wsX7_readOf := goodIn_r _ [14, 6, 15, 16, 17, 9, 18, 19, 20, 21, 22, 23, 24, 25, 26, 27, 28, 29, 30, 31, 32, 33, 34, 35, 36, 37, 38, 39, 40, 52, 53, 54, 55, 56, 57, 58, 59, 60, 61, 62, 63, 64, 65, 66, 67, 68, 69, 70, 71, 72, 73, 74, 75] (by decide +kernel) (by decide +kernel)
set_option maxRecDepth 20000 in
theorem gX7_bags_X7_readOf : GoodIn wsX7_bags (wsV RX7 172 RX7 yX7_readOf wsX7_readOf) := goodIn_app (goodIn_of _ (by decide +kernel)) ggX7_bags_X7_readOf
set_option maxRecDepth 20000 in
theorem ggX7_bags_X7_isBag : GoodIn wsX7_bags wsX7_isBag := goodIn_r _ [44, 6, 19, 20, 9, 21, 26, 27, 28, 29, 45, 46, 47, 48, 52, 53, 54, 55, 56, 57, 58, 59, 60, 61, 62, 63, 64, 65, 66, 67, 68, 69, 70, 71, 72, 73, 74, 75] (by decide +kernel) (by decide +kernel)
set_option maxRecDepth 20000 in
theorem gX7_bags_X7_isBag : GoodIn wsX7_bags (wsV RX7 193 RX7 yX7_isBag wsX7_isBag) := goodIn_app (goodIn_of _ (by decide +kernel)) ggX7_bags_X7_isBag
set_option maxRecDepth 20000 in
theorem ggX7_bags_X7_ones : GoodIn wsX7_bags wsX7_ones := goodIn_r _ [51] (by decide +kernel) (by decide +kernel)
set_option maxRecDepth 20000 in
theorem gX7_bags_X7_ones : GoodIn wsX7_bags (va_wsS RX7 196 yX7_ones wsX7_ones) := goodIn_app (goodIn_of _ (by decide +kernel)) ggX7_bags_X7_ones
theorem dX7_bags_0 : decode cX7_bags 0 = .ok (.aload_n 0, 1) := by decide +kernel
theorem dX7_bags_1 : decode cX7_bags 1 = .ok (.getfield 135, 3) := by decide +kernel
theorem dX7_bags_4 : decode cX7_bags 4 = .ok (.ifCond .ne 6, 3) := by decide +kernel
theorem dX7_bags_7 : decode cX7_bags 7 = .ok (.ldc 168, 2) := by decide +kernel
theorem dX7_bags_9 : decode cX7_bags 9 = .ok (.ireturn, 1) := by decide +kernel
theorem dX7_bags_10 : decode cX7_bags 10 = .ok (.iload_n 1, 1) := by decide +kernel
theorem dX7_bags_11 : decode cX7_bags 11 = .ok (.i2l, 1) := by decide +kernel
theorem dX7_bags_12 : decode cX7_bags 12 = .ok (.lconst 0, 1) := by decide +kernel
theorem dX7_bags_13 : decode cX7_bags 13 = .ok (.ldc2_w 191, 3) := by decide +kernel
theorem dX7_bags_16 : decode cX7_bags 16 = .ok (.invokestatic 54, 3) := by decide +kernel
theorem dX7_bags_19 : decode cX7_bags 19 = .ok (.ifCond .eq 13, 3) := by decide +kernel
theorem dX7_bags_22 : decode cX7_bags 22 = .ok (.iload_n 2, 1) := by decide +kernel
theorem dX7_bags_23 : decode cX7_bags 23 = .ok (.i2l, 1) := by decide +kernel
theorem dX7_bags_24 : decode cX7_bags 24 = .ok (.lconst 0, 1) := by decide +kernel
theorem dX7_bags_25 : decode cX7_bags 25 = .ok (.lconst 1, 1) := by decide +kernel
theorem dX7_bags_26 : decode cX7_bags 26 = .ok (.invokestatic 54, 3) := by decide +kernel
theorem dX7_bags_29 : decode cX7_bags 29 = .ok (.ifCond .ne 6, 3) := by decide +kernel
theorem dX7_bags_32 : decode cX7_bags 32 = .ok (.ldc 64, 2) := by decide +kernel
theorem dX7_bags_34 : decode cX7_bags 34 = .ok (.ireturn, 1) := by decide +kernel
theorem dX7_bags_35 : decode cX7_bags 35 = .ok (.iconst 0, 1) := by decide +kernel
theorem dX7_bags_36 : decode cX7_bags 36 = .ok (.istore_n 3, 1) := by decide +kernel
theorem dX7_bags_37 : decode cX7_bags 37 = .ok (.ldc 187, 2) := by decide +kernel
theorem dX7_bags_39 : decode cX7_bags 39 = .ok (.istore 4, 2) := by decide +kernel
theorem dX7_bags_41 : decode cX7_bags 41 = .ok (.iconst 0, 1) := by decide +kernel
theorem dX7_bags_42 : decode cX7_bags 42 = .ok (.istore 5, 2) := by decide +kernel
theorem dX7_bags_44 : decode cX7_bags 44 = .ok (.iload 5, 2) := by decide +kernel
theorem dX7_bags_46 : decode cX7_bags 46 = .ok (.iconst 1, 1) := by decide +kernel
theorem dX7_bags_47 : decode cX7_bags 47 = .ok (.aload_n 0, 1) := by decide +kernel
theorem dX7_bags_48 : decode cX7_bags 48 = .ok (.getfield 19, 3) := by decide +kernel
theorem dX7_bags_51 : decode cX7_bags 51 = .ok (.iconst 3, 1) := by decide +kernel
theorem dX7_bags_52 : decode cX7_bags 52 = .ok (.iaload, 1) := by decide +kernel
theorem dX7_bags_53 : decode cX7_bags 53 = .ok (.ishl, 1) := by decide +kernel
theorem dX7_bags_54 : decode cX7_bags 54 = .ok (.if_icmp .ge 58, 3) := by decide +kernel
theorem dX7_bags_57 : decode cX7_bags 57 = .ok (.aload_n 0, 1) := by decide +kernel
theorem dX7_bags_58 : decode cX7_bags 58 = .ok (.iload 5, 2) := by decide +kernel
theorem dX7_bags_60 : decode cX7_bags 60 = .ok (.invokevirtual 172, 3) := by decide +kernel
theorem dX7_bags_63 : decode cX7_bags 63 = .ok (.iload_n 1, 1) := by decide +kernel
theorem dX7_bags_64 : decode cX7_bags 64 = .ok (.if_icmp .ne 42, 3) := by decide +kernel
theorem dX7_bags_67 : decode cX7_bags 67 = .ok (.aload_n 0, 1) := by decide +kernel
theorem dX7_bags_68 : decode cX7_bags 68 = .ok (.iload 5, 2) := by decide +kernel
theorem dX7_bags_70 : decode cX7_bags 70 = .ok (.invokevirtual 193, 3) := by decide +kernel
theorem dX7_bags_73 : decode cX7_bags 73 = .ok (.ifCond .eq 33, 3) := by decide +kernel
theorem dX7_bags_76 : decode cX7_bags 76 = .ok (.iinc 3 1, 3) := by decide +kernel
theorem dX7_bags_79 : decode cX7_bags 79 = .ok (.iload 4, 2) := by decide +kernel
theorem dX7_bags_81 : decode cX7_bags 81 = .ok (.ifCond .lt 16, 3) := by decide +kernel
theorem dX7_bags_84 : decode cX7_bags 84 = .ok (.iload 5, 2) := by decide +kernel
theorem dX7_bags_86 : decode cX7_bags 86 = .ok (.invokestatic 196, 3) := by decide +kernel
theorem dX7_bags_89 : decode cX7_bags 89 = .ok (.iload 4, 2) := by decide +kernel
theorem dX7_bags_91 : decode cX7_bags 91 = .ok (.invokestatic 196, 3) := by decide +kernel
theorem dX7_bags_94 : decode cX7_bags 94 = .ok (.if_icmp .ge 8, 3) := by decide +kernel
theorem dX7_bags_97 : decode cX7_bags 97 = .ok (.iload 5, 2) := by decide +kernel
theorem dX7_bags_99 : decode cX7_bags 99 = .ok (.goto 5, 3) := by decide +kernel
theorem dX7_bags_102 : decode cX7_bags 102 = .ok (.iload 4, 2) := by decide +kernel
theorem dX7_bags_104 : decode cX7_bags 104 = .ok (.istore 4, 2) := by decide +kernel
theorem dX7_bags_106 : decode cX7_bags 106 = .ok (.iinc 5 1, 3) := by decide +kernel
theorem dX7_bags_109 : decode cX7_bags 109 = .ok (.goto (-65), 3) := by decide +kernel
theorem dX7_bags_112 : decode cX7_bags 112 = .ok (.iload_n 2, 1) := by decide +kernel
theorem dX7_bags_113 : decode cX7_bags 113 = .ok (.ifCond .ne 7, 3) := by decide +kernel
theorem dX7_bags_116 : decode cX7_bags 116 = .ok (.iload_n 3, 1) := by decide +kernel
theorem dX7_bags_117 : decode cX7_bags 117 = .ok (.goto 5, 3) := by decide +kernel
theorem dX7_bags_120 : decode cX7_bags 120 = .ok (.iload 4, 2) := by decide +kernel
theorem dX7_bags_122 : decode cX7_bags 122 = .ok (.ireturn, 1) := by decide +kernel
set_option maxRecDepth 20000 in
theorem ggX7_heaviest_X7_in : GoodIn wsX7_heaviest wsX7_in := goodIn_r _ [9] (by decide +kernel) (by decide +kernel)
set_option maxRecDepth 20000 in
theorem gX7_heaviest_X7_in : GoodIn wsX7_heaviest (va_wsS RX7 54 yX7_in wsX7_in) := goodIn_app (goodIn_of _ (by decide +kernel)) ggX7_heaviest_X7_in
set_option maxRecDepth 20000 in
theorem ggX7_heaviest_X7_readOf : GoodIn wsX7_heaviest wsX7_readOf := goodIn_r _ [13, 5, 14, 15, 16, 8, 17, 18, 19, 20, 21, 22, 23, 24, 25, 26, 27, 28, 29, 30, 31, 32, 33, 34, 35, 36, 37, 38, 39, 51, 52, 53, 54, 55, 56, 57, 58, 59, 60, 61, 62, 63, 64, 65, 66, 67, 68, 69, 70, 71, 72, 73, 74] (by decide +kernel) (by decide +kernel)
set_option maxRecDepth 20000 in
theorem gX7_heaviest_X7_readOf : GoodIn wsX7_heaviest (wsV RX7 172 RX7 yX7_readOf wsX7_readOf) := goodIn_app (goodIn_of _ (by decide +kernel)) ggX7_heaviest_X7_readOf
set_option maxRecDepth 20000 in
theorem ggX7_heaviest_X7_ones : GoodIn wsX7_heaviest wsX7_ones := goodIn_r _ [42] (by decide +kernel) (by decide +kernel)
set_option maxRecDepth 20000 in
theorem gX7_heaviest_X7_ones : GoodIn wsX7_heaviest (va_wsS RX7 196 yX7_ones wsX7_ones) := goodIn_app (goodIn_of _ (by decide +kernel)) ggX7_heaviest_X7_ones
set_option maxRecDepth 20000 in
theorem ggX7_heaviest_X7_isBag : GoodIn wsX7_heaviest wsX7_isBag := goodIn_r _ [46, 5, 18, 19, 8, 20, 25, 26, 27, 28, 47, 48, 49, 50, 51, 52, 53, 54, 55, 56, 57, 58, 59, 60, 61, 62, 63, 64, 65, 66, 67, 68, 69, 70, 71, 72, 73, 74] (by decide +kernel) (by decide +kernel)
set_option maxRecDepth 20000 in
theorem gX7_heaviest_X7_isBag : GoodIn wsX7_heaviest (wsV RX7 193 RX7 yX7_isBag wsX7_isBag) := goodIn_app (goodIn_of _ (by decide +kernel)) ggX7_heaviest_X7_isBag
theorem dX7_heaviest_0 : decode cX7_heaviest 0 = .ok (.aload_n 0, 1) := by decide +kernel
theorem dX7_heaviest_1 : decode cX7_heaviest 1 = .ok (.getfield 135, 3) := by decide +kernel
theorem dX7_heaviest_4 : decode cX7_heaviest 4 = .ok (.ifCond .ne 6, 3) := by decide +kernel
theorem dX7_heaviest_7 : decode cX7_heaviest 7 = .ok (.ldc 168, 2) := by decide +kernel
theorem dX7_heaviest_9 : decode cX7_heaviest 9 = .ok (.ireturn, 1) := by decide +kernel
theorem dX7_heaviest_10 : decode cX7_heaviest 10 = .ok (.iload_n 1, 1) := by decide +kernel
theorem dX7_heaviest_11 : decode cX7_heaviest 11 = .ok (.i2l, 1) := by decide +kernel
theorem dX7_heaviest_12 : decode cX7_heaviest 12 = .ok (.lconst 0, 1) := by decide +kernel
theorem dX7_heaviest_13 : decode cX7_heaviest 13 = .ok (.ldc2_w 199, 3) := by decide +kernel
theorem dX7_heaviest_16 : decode cX7_heaviest 16 = .ok (.invokestatic 54, 3) := by decide +kernel
theorem dX7_heaviest_19 : decode cX7_heaviest 19 = .ok (.ifCond .eq 13, 3) := by decide +kernel
theorem dX7_heaviest_22 : decode cX7_heaviest 22 = .ok (.iload_n 2, 1) := by decide +kernel
theorem dX7_heaviest_23 : decode cX7_heaviest 23 = .ok (.i2l, 1) := by decide +kernel
theorem dX7_heaviest_24 : decode cX7_heaviest 24 = .ok (.lconst 0, 1) := by decide +kernel
theorem dX7_heaviest_25 : decode cX7_heaviest 25 = .ok (.lconst 1, 1) := by decide +kernel
theorem dX7_heaviest_26 : decode cX7_heaviest 26 = .ok (.invokestatic 54, 3) := by decide +kernel
theorem dX7_heaviest_29 : decode cX7_heaviest 29 = .ok (.ifCond .ne 6, 3) := by decide +kernel
theorem dX7_heaviest_32 : decode cX7_heaviest 32 = .ok (.ldc 64, 2) := by decide +kernel
theorem dX7_heaviest_34 : decode cX7_heaviest 34 = .ok (.ireturn, 1) := by decide +kernel
theorem dX7_heaviest_35 : decode cX7_heaviest 35 = .ok (.iconst 0, 1) := by decide +kernel
theorem dX7_heaviest_36 : decode cX7_heaviest 36 = .ok (.istore_n 3, 1) := by decide +kernel
theorem dX7_heaviest_37 : decode cX7_heaviest 37 = .ok (.aload_n 0, 1) := by decide +kernel
theorem dX7_heaviest_38 : decode cX7_heaviest 38 = .ok (.iconst 0, 1) := by decide +kernel
theorem dX7_heaviest_39 : decode cX7_heaviest 39 = .ok (.invokevirtual 172, 3) := by decide +kernel
theorem dX7_heaviest_42 : decode cX7_heaviest 42 = .ok (.istore 4, 2) := by decide +kernel
theorem dX7_heaviest_44 : decode cX7_heaviest 44 = .ok (.iconst 1, 1) := by decide +kernel
theorem dX7_heaviest_45 : decode cX7_heaviest 45 = .ok (.istore 5, 2) := by decide +kernel
theorem dX7_heaviest_47 : decode cX7_heaviest 47 = .ok (.iload 5, 2) := by decide +kernel
theorem dX7_heaviest_49 : decode cX7_heaviest 49 = .ok (.iconst 1, 1) := by decide +kernel
theorem dX7_heaviest_50 : decode cX7_heaviest 50 = .ok (.aload_n 0, 1) := by decide +kernel
theorem dX7_heaviest_51 : decode cX7_heaviest 51 = .ok (.getfield 19, 3) := by decide +kernel
theorem dX7_heaviest_54 : decode cX7_heaviest 54 = .ok (.iconst 3, 1) := by decide +kernel
theorem dX7_heaviest_55 : decode cX7_heaviest 55 = .ok (.iaload, 1) := by decide +kernel
theorem dX7_heaviest_56 : decode cX7_heaviest 56 = .ok (.ishl, 1) := by decide +kernel
theorem dX7_heaviest_57 : decode cX7_heaviest 57 = .ok (.if_icmp .ge 49, 3) := by decide +kernel
theorem dX7_heaviest_60 : decode cX7_heaviest 60 = .ok (.iload 5, 2) := by decide +kernel
theorem dX7_heaviest_62 : decode cX7_heaviest 62 = .ok (.invokestatic 196, 3) := by decide +kernel
theorem dX7_heaviest_65 : decode cX7_heaviest 65 = .ok (.iload_n 1, 1) := by decide +kernel
theorem dX7_heaviest_66 : decode cX7_heaviest 66 = .ok (.if_icmp .gt 34, 3) := by decide +kernel
theorem dX7_heaviest_69 : decode cX7_heaviest 69 = .ok (.aload_n 0, 1) := by decide +kernel
theorem dX7_heaviest_70 : decode cX7_heaviest 70 = .ok (.iload 5, 2) := by decide +kernel
theorem dX7_heaviest_72 : decode cX7_heaviest 72 = .ok (.invokevirtual 172, 3) := by decide +kernel
theorem dX7_heaviest_75 : decode cX7_heaviest 75 = .ok (.iload 4, 2) := by decide +kernel
theorem dX7_heaviest_77 : decode cX7_heaviest 77 = .ok (.if_icmp .le 23, 3) := by decide +kernel
theorem dX7_heaviest_80 : decode cX7_heaviest 80 = .ok (.aload_n 0, 1) := by decide +kernel
theorem dX7_heaviest_81 : decode cX7_heaviest 81 = .ok (.iload 5, 2) := by decide +kernel
theorem dX7_heaviest_83 : decode cX7_heaviest 83 = .ok (.invokevirtual 193, 3) := by decide +kernel
theorem dX7_heaviest_86 : decode cX7_heaviest 86 = .ok (.ifCond .eq 14, 3) := by decide +kernel
theorem dX7_heaviest_89 : decode cX7_heaviest 89 = .ok (.iload 5, 2) := by decide +kernel
theorem dX7_heaviest_91 : decode cX7_heaviest 91 = .ok (.istore_n 3, 1) := by decide +kernel
theorem dX7_heaviest_92 : decode cX7_heaviest 92 = .ok (.aload_n 0, 1) := by decide +kernel
theorem dX7_heaviest_93 : decode cX7_heaviest 93 = .ok (.iload 5, 2) := by decide +kernel
theorem dX7_heaviest_95 : decode cX7_heaviest 95 = .ok (.invokevirtual 172, 3) := by decide +kernel
theorem dX7_heaviest_98 : decode cX7_heaviest 98 = .ok (.istore 4, 2) := by decide +kernel
theorem dX7_heaviest_100 : decode cX7_heaviest 100 = .ok (.iinc 5 1, 3) := by decide +kernel
theorem dX7_heaviest_103 : decode cX7_heaviest 103 = .ok (.goto (-56), 3) := by decide +kernel
theorem dX7_heaviest_106 : decode cX7_heaviest 106 = .ok (.iload_n 2, 1) := by decide +kernel
theorem dX7_heaviest_107 : decode cX7_heaviest 107 = .ok (.ifCond .ne 8, 3) := by decide +kernel
theorem dX7_heaviest_110 : decode cX7_heaviest 110 = .ok (.iload 4, 2) := by decide +kernel
theorem dX7_heaviest_112 : decode cX7_heaviest 112 = .ok (.goto 4, 3) := by decide +kernel
theorem dX7_heaviest_115 : decode cX7_heaviest 115 = .ok (.iload_n 3, 1) := by decide +kernel
theorem dX7_heaviest_116 : decode cX7_heaviest 116 = .ok (.ireturn, 1) := by decide +kernel
set_option maxRecDepth 20000 in
theorem ggX7_worded_X7_isPromise : GoodIn wsX7_worded wsX7_isPromise := goodIn_r _ [8, 9, 10, 11, 7, 12, 29, 30, 31, 32, 33, 34, 35, 36, 37, 38, 39, 40, 41, 42, 43, 44, 45, 46, 47, 48, 49, 50, 51, 52] (by decide +kernel) (by decide +kernel)
set_option maxRecDepth 20000 in
theorem gX7_worded_X7_isPromise : GoodIn wsX7_worded (wsV RX7 165 RX7 yX7_isPromise wsX7_isPromise) := goodIn_app (goodIn_of _ (by decide +kernel)) ggX7_worded_X7_isPromise
set_option maxRecDepth 20000 in
theorem ggX7_worded_X7_in : GoodIn wsX7_worded wsX7_in := goodIn_r _ [12] (by decide +kernel) (by decide +kernel)
set_option maxRecDepth 20000 in
theorem gX7_worded_X7_in : GoodIn wsX7_worded (va_wsS RX7 54 yX7_in wsX7_in) := goodIn_app (goodIn_of _ (by decide +kernel)) ggX7_worded_X7_in
set_option maxRecDepth 20000 in
theorem ggX7_worded_X7_isOpen : GoodIn wsX7_worded wsX7_isOpen := goodIn_r _ [16, 9, 29, 30, 31, 32, 33, 34, 35, 36, 37, 38, 39, 40, 41, 42, 43, 44, 45, 46, 47, 48, 49, 50, 51, 52] (by decide +kernel) (by decide +kernel)
set_option maxRecDepth 20000 in
theorem gX7_worded_X7_isOpen : GoodIn wsX7_worded (wsV RX7 145 RX7 yX7_isOpen wsX7_isOpen) := goodIn_app (goodIn_of _ (by decide +kernel)) ggX7_worded_X7_isOpen
set_option maxRecDepth 20000 in
theorem ggX7_worded_X7_weightOf : GoodIn wsX7_worded wsX7_weightOf := goodIn_r _ [20, 9, 13, 14, 15, 7, 16, 21, 22, 23, 24, 25, 26, 27, 28, 29, 30, 31, 32, 33, 34, 35, 36, 37, 38, 39, 40, 41, 42, 43, 44, 45, 46, 47, 48, 49, 50, 51, 52] (by decide +kernel) (by decide +kernel)
set_option maxRecDepth 20000 in
theorem gX7_worded_X7_weightOf : GoodIn wsX7_worded (wsV RX7 156 RX7 yX7_weightOf wsX7_weightOf) := goodIn_app (goodIn_of _ (by decide +kernel)) ggX7_worded_X7_weightOf
set_option maxRecDepth 20000 in
theorem ggX7_worded_X7_weightAs : GoodIn wsX7_worded wsX7_weightAs := goodIn_r _ [24, 25, 26, 27, 7, 28, 9, 29, 30, 31, 32, 33, 34, 35, 36, 37, 38, 39, 40, 41, 42, 43, 44, 45, 46, 47, 48, 49, 50, 51, 52] (by decide +kernel) (by decide +kernel)
set_option maxRecDepth 20000 in
theorem gX7_worded_X7_weightAs : GoodIn wsX7_worded (wsV RX7 148 RX7 yX7_weightAs wsX7_weightAs) := goodIn_app (goodIn_of _ (by decide +kernel)) ggX7_worded_X7_weightAs
theorem dX7_worded_0 : decode cX7_worded 0 = .ok (.aload_n 0, 1) := by decide +kernel
theorem dX7_worded_1 : decode cX7_worded 1 = .ok (.iload_n 1, 1) := by decide +kernel
theorem dX7_worded_2 : decode cX7_worded 2 = .ok (.invokevirtual 165, 3) := by decide +kernel
theorem dX7_worded_5 : decode cX7_worded 5 = .ok (.ifCond .eq 15, 3) := by decide +kernel
theorem dX7_worded_8 : decode cX7_worded 8 = .ok (.iload_n 2, 1) := by decide +kernel
theorem dX7_worded_9 : decode cX7_worded 9 = .ok (.i2l, 1) := by decide +kernel
theorem dX7_worded_10 : decode cX7_worded 10 = .ok (.lconst 0, 1) := by decide +kernel
theorem dX7_worded_11 : decode cX7_worded 11 = .ok (.ldc2_w 201, 3) := by decide +kernel
theorem dX7_worded_14 : decode cX7_worded 14 = .ok (.invokestatic 54, 3) := by decide +kernel
theorem dX7_worded_17 : decode cX7_worded 17 = .ok (.ifCond .ne 6, 3) := by decide +kernel
theorem dX7_worded_20 : decode cX7_worded 20 = .ok (.ldc 64, 2) := by decide +kernel
theorem dX7_worded_22 : decode cX7_worded 22 = .ok (.ireturn, 1) := by decide +kernel
theorem dX7_worded_23 : decode cX7_worded 23 = .ok (.aload_n 0, 1) := by decide +kernel
theorem dX7_worded_24 : decode cX7_worded 24 = .ok (.iload_n 1, 1) := by decide +kernel
theorem dX7_worded_25 : decode cX7_worded 25 = .ok (.invokevirtual 145, 3) := by decide +kernel
theorem dX7_worded_28 : decode cX7_worded 28 = .ok (.ifCond .ne 6, 3) := by decide +kernel
theorem dX7_worded_31 : decode cX7_worded 31 = .ok (.ldc 168, 2) := by decide +kernel
theorem dX7_worded_33 : decode cX7_worded 33 = .ok (.ireturn, 1) := by decide +kernel
theorem dX7_worded_34 : decode cX7_worded 34 = .ok (.iload_n 1, 1) := by decide +kernel
theorem dX7_worded_35 : decode cX7_worded 35 = .ok (.ifCond .ne 7, 3) := by decide +kernel
theorem dX7_worded_38 : decode cX7_worded 38 = .ok (.iconst 0, 1) := by decide +kernel
theorem dX7_worded_39 : decode cX7_worded 39 = .ok (.goto 10, 3) := by decide +kernel
theorem dX7_worded_42 : decode cX7_worded 42 = .ok (.aload_n 0, 1) := by decide +kernel
theorem dX7_worded_43 : decode cX7_worded 43 = .ok (.iload_n 1, 1) := by decide +kernel
theorem dX7_worded_44 : decode cX7_worded 44 = .ok (.iconst 1, 1) := by decide +kernel
theorem dX7_worded_45 : decode cX7_worded 45 = .ok (.isub, 1) := by decide +kernel
theorem dX7_worded_46 : decode cX7_worded 46 = .ok (.invokevirtual 156, 3) := by decide +kernel
theorem dX7_worded_49 : decode cX7_worded 49 = .ok (.istore_n 3, 1) := by decide +kernel
theorem dX7_worded_50 : decode cX7_worded 50 = .ok (.iload_n 2, 1) := by decide +kernel
theorem dX7_worded_51 : decode cX7_worded 51 = .ok (.ifCond .le 11, 3) := by decide +kernel
theorem dX7_worded_54 : decode cX7_worded 54 = .ok (.aload_n 0, 1) := by decide +kernel
theorem dX7_worded_55 : decode cX7_worded 55 = .ok (.iload_n 1, 1) := by decide +kernel
theorem dX7_worded_56 : decode cX7_worded 56 = .ok (.iload_n 2, 1) := by decide +kernel
theorem dX7_worded_57 : decode cX7_worded 57 = .ok (.iload_n 3, 1) := by decide +kernel
theorem dX7_worded_58 : decode cX7_worded 58 = .ok (.invokevirtual 148, 3) := by decide +kernel
theorem dX7_worded_61 : decode cX7_worded 61 = .ok (.ireturn, 1) := by decide +kernel
theorem dX7_worded_62 : decode cX7_worded 62 = .ok (.iconst 1, 1) := by decide +kernel
theorem dX7_worded_63 : decode cX7_worded 63 = .ok (.istore 4, 2) := by decide +kernel
theorem dX7_worded_65 : decode cX7_worded 65 = .ok (.iconst 2, 1) := by decide +kernel
theorem dX7_worded_66 : decode cX7_worded 66 = .ok (.istore 5, 2) := by decide +kernel
theorem dX7_worded_68 : decode cX7_worded 68 = .ok (.iload 5, 2) := by decide +kernel
theorem dX7_worded_70 : decode cX7_worded 70 = .ok (.iconst 5, 1) := by decide +kernel
theorem dX7_worded_71 : decode cX7_worded 71 = .ok (.if_icmp .gt 37, 3) := by decide +kernel
theorem dX7_worded_74 : decode cX7_worded 74 = .ok (.aload_n 0, 1) := by decide +kernel
theorem dX7_worded_75 : decode cX7_worded 75 = .ok (.iload_n 1, 1) := by decide +kernel
theorem dX7_worded_76 : decode cX7_worded 76 = .ok (.iload 5, 2) := by decide +kernel
theorem dX7_worded_78 : decode cX7_worded 78 = .ok (.iload_n 3, 1) := by decide +kernel
theorem dX7_worded_79 : decode cX7_worded 79 = .ok (.invokevirtual 148, 3) := by decide +kernel
theorem dX7_worded_82 : decode cX7_worded 82 = .ok (.aload_n 0, 1) := by decide +kernel
theorem dX7_worded_83 : decode cX7_worded 83 = .ok (.iload_n 1, 1) := by decide +kernel
theorem dX7_worded_84 : decode cX7_worded 84 = .ok (.iload 4, 2) := by decide +kernel
theorem dX7_worded_86 : decode cX7_worded 86 = .ok (.iload_n 3, 1) := by decide +kernel
theorem dX7_worded_87 : decode cX7_worded 87 = .ok (.invokevirtual 148, 3) := by decide +kernel
theorem dX7_worded_90 : decode cX7_worded 90 = .ok (.if_icmp .le 8, 3) := by decide +kernel
theorem dX7_worded_93 : decode cX7_worded 93 = .ok (.iload 5, 2) := by decide +kernel
theorem dX7_worded_95 : decode cX7_worded 95 = .ok (.goto 5, 3) := by decide +kernel
theorem dX7_worded_98 : decode cX7_worded 98 = .ok (.iload 4, 2) := by decide +kernel
theorem dX7_worded_100 : decode cX7_worded 100 = .ok (.istore 4, 2) := by decide +kernel
theorem dX7_worded_102 : decode cX7_worded 102 = .ok (.iinc 5 1, 3) := by decide +kernel
theorem dX7_worded_105 : decode cX7_worded 105 = .ok (.goto (-37), 3) := by decide +kernel
theorem dX7_worded_108 : decode cX7_worded 108 = .ok (.iload 4, 2) := by decide +kernel
theorem dX7_worded_110 : decode cX7_worded 110 = .ok (.ireturn, 1) := by decide +kernel
set_option maxRecDepth 20000 in
theorem ggX7_price_X7_isPromise : GoodIn wsX7_price wsX7_isPromise := goodIn_r _ [7, 8, 9, 10, 6, 11, 28, 29, 30, 31, 32, 33, 34, 35, 36, 37, 38, 39, 40, 41, 42, 43, 44, 45, 46, 47, 48, 49, 50, 51] (by decide +kernel) (by decide +kernel)
set_option maxRecDepth 20000 in
theorem gX7_price_X7_isPromise : GoodIn wsX7_price (wsV RX7 165 RX7 yX7_isPromise wsX7_isPromise) := goodIn_app (goodIn_of _ (by decide +kernel)) ggX7_price_X7_isPromise
set_option maxRecDepth 20000 in
theorem ggX7_price_X7_in : GoodIn wsX7_price wsX7_in := goodIn_r _ [11] (by decide +kernel) (by decide +kernel)
set_option maxRecDepth 20000 in
theorem gX7_price_X7_in : GoodIn wsX7_price (va_wsS RX7 54 yX7_in wsX7_in) := goodIn_app (goodIn_of _ (by decide +kernel)) ggX7_price_X7_in
set_option maxRecDepth 20000 in
theorem ggX7_price_X7_weightOf : GoodIn wsX7_price wsX7_weightOf := goodIn_r _ [15, 8, 16, 17, 18, 6, 19, 20, 21, 22, 23, 24, 25, 26, 27, 28, 29, 30, 31, 32, 33, 34, 35, 36, 37, 38, 39, 40, 41, 42, 43, 44, 45, 46, 47, 48, 49, 50, 51] (by decide +kernel) (by decide +kernel)
set_option maxRecDepth 20000 in
theorem gX7_price_X7_weightOf : GoodIn wsX7_price (wsV RX7 156 RX7 yX7_weightOf wsX7_weightOf) := goodIn_app (goodIn_of _ (by decide +kernel)) ggX7_price_X7_weightOf
theorem dX7_price_0 : decode cX7_price 0 = .ok (.aload_n 0, 1) := by decide +kernel
theorem dX7_price_1 : decode cX7_price 1 = .ok (.iload_n 1, 1) := by decide +kernel
theorem dX7_price_2 : decode cX7_price 2 = .ok (.invokevirtual 165, 3) := by decide +kernel
theorem dX7_price_5 : decode cX7_price 5 = .ok (.ifCond .eq 28, 3) := by decide +kernel
theorem dX7_price_8 : decode cX7_price 8 = .ok (.iload_n 2, 1) := by decide +kernel
theorem dX7_price_9 : decode cX7_price 9 = .ok (.i2l, 1) := by decide +kernel
theorem dX7_price_10 : decode cX7_price 10 = .ok (.lconst 0, 1) := by decide +kernel
theorem dX7_price_11 : decode cX7_price 11 = .ok (.ldc2_w 203, 3) := by decide +kernel
theorem dX7_price_14 : decode cX7_price 14 = .ok (.invokestatic 54, 3) := by decide +kernel
theorem dX7_price_17 : decode cX7_price 17 = .ok (.ifCond .eq 16, 3) := by decide +kernel
theorem dX7_price_20 : decode cX7_price 20 = .ok (.iload_n 2, 1) := by decide +kernel
theorem dX7_price_21 : decode cX7_price 21 = .ok (.aload_n 0, 1) := by decide +kernel
theorem dX7_price_22 : decode cX7_price 22 = .ok (.iload_n 1, 1) := by decide +kernel
theorem dX7_price_23 : decode cX7_price 23 = .ok (.invokevirtual 156, 3) := by decide +kernel
theorem dX7_price_26 : decode cX7_price 26 = .ok (.imul, 1) := by decide +kernel
theorem dX7_price_27 : decode cX7_price 27 = .ok (.bipush 20, 2) := by decide +kernel
theorem dX7_price_29 : decode cX7_price 29 = .ok (.idiv, 1) := by decide +kernel
theorem dX7_price_30 : decode cX7_price 30 = .ok (.goto 5, 3) := by decide +kernel
theorem dX7_price_33 : decode cX7_price 33 = .ok (.ldc 64, 2) := by decide +kernel
theorem dX7_price_35 : decode cX7_price 35 = .ok (.ireturn, 1) := by decide +kernel
set_option maxRecDepth 20000 in
theorem ggX7_prices_X7_isGiver : GoodIn wsX7_prices wsX7_isGiver := goodIn_r _ [8, 3, 9, 10, 7, 11, 28, 29, 30, 31, 32, 33, 34, 35, 36, 37, 38, 39, 40, 41, 42, 43, 44, 45, 46, 47, 48, 49, 50, 51] (by decide +kernel) (by decide +kernel)
set_option maxRecDepth 20000 in
theorem gX7_prices_X7_isGiver : GoodIn wsX7_prices (wsV RX7 181 RX7 yX7_isGiver wsX7_isGiver) := goodIn_app (goodIn_of _ (by decide +kernel)) ggX7_prices_X7_isGiver
set_option maxRecDepth 20000 in
theorem ggX7_prices_X7_in : GoodIn wsX7_prices wsX7_in := goodIn_r _ [11] (by decide +kernel) (by decide +kernel)
set_option maxRecDepth 20000 in
theorem gX7_prices_X7_in : GoodIn wsX7_prices (va_wsS RX7 54 yX7_in wsX7_in) := goodIn_app (goodIn_of _ (by decide +kernel)) ggX7_prices_X7_in
set_option maxRecDepth 20000 in
theorem ggX7_prices_X7_isOpen : GoodIn wsX7_prices wsX7_isOpen := goodIn_r _ [15, 3, 28, 29, 30, 31, 32, 33, 34, 35, 36, 37, 38, 39, 40, 41, 42, 43, 44, 45, 46, 47, 48, 49, 50, 51] (by decide +kernel) (by decide +kernel)
set_option maxRecDepth 20000 in
theorem gX7_prices_X7_isOpen : GoodIn wsX7_prices (wsV RX7 145 RX7 yX7_isOpen wsX7_isOpen) := goodIn_app (goodIn_of _ (by decide +kernel)) ggX7_prices_X7_isOpen
set_option maxRecDepth 20000 in
theorem ggX7_prices_X7_weightOf : GoodIn wsX7_prices wsX7_weightOf := goodIn_r _ [19, 3, 12, 13, 14, 7, 15, 20, 21, 22, 23, 24, 25, 26, 27, 28, 29, 30, 31, 32, 33, 34, 35, 36, 37, 38, 39, 40, 41, 42, 43, 44, 45, 46, 47, 48, 49, 50, 51] (by decide +kernel) (by decide +kernel)
set_option maxRecDepth 20000 in
theorem gX7_prices_X7_weightOf : GoodIn wsX7_prices (wsV RX7 156 RX7 yX7_weightOf wsX7_weightOf) := goodIn_app (goodIn_of _ (by decide +kernel)) ggX7_prices_X7_weightOf
theorem dX7_prices_0 : decode cX7_prices 0 = .ok (.aload_n 0, 1) := by decide +kernel
theorem dX7_prices_1 : decode cX7_prices 1 = .ok (.iload_n 1, 1) := by decide +kernel
theorem dX7_prices_2 : decode cX7_prices 2 = .ok (.invokevirtual 181, 3) := by decide +kernel
theorem dX7_prices_5 : decode cX7_prices 5 = .ok (.ifCond .eq 15, 3) := by decide +kernel
theorem dX7_prices_8 : decode cX7_prices 8 = .ok (.iload_n 2, 1) := by decide +kernel
theorem dX7_prices_9 : decode cX7_prices 9 = .ok (.i2l, 1) := by decide +kernel
theorem dX7_prices_10 : decode cX7_prices 10 = .ok (.lconst 0, 1) := by decide +kernel
theorem dX7_prices_11 : decode cX7_prices 11 = .ok (.ldc2_w 203, 3) := by decide +kernel
theorem dX7_prices_14 : decode cX7_prices 14 = .ok (.invokestatic 54, 3) := by decide +kernel
theorem dX7_prices_17 : decode cX7_prices 17 = .ok (.ifCond .ne 6, 3) := by decide +kernel
theorem dX7_prices_20 : decode cX7_prices 20 = .ok (.ldc 64, 2) := by decide +kernel
theorem dX7_prices_22 : decode cX7_prices 22 = .ok (.ireturn, 1) := by decide +kernel
theorem dX7_prices_23 : decode cX7_prices 23 = .ok (.iconst 0, 1) := by decide +kernel
theorem dX7_prices_24 : decode cX7_prices 24 = .ok (.istore_n 3, 1) := by decide +kernel
theorem dX7_prices_25 : decode cX7_prices 25 = .ok (.iconst 0, 1) := by decide +kernel
theorem dX7_prices_26 : decode cX7_prices 26 = .ok (.istore 4, 2) := by decide +kernel
theorem dX7_prices_28 : decode cX7_prices 28 = .ok (.iload 4, 2) := by decide +kernel
theorem dX7_prices_30 : decode cX7_prices 30 = .ok (.aload_n 0, 1) := by decide +kernel
theorem dX7_prices_31 : decode cX7_prices 31 = .ok (.getfield 19, 3) := by decide +kernel
theorem dX7_prices_34 : decode cX7_prices 34 = .ok (.iconst 3, 1) := by decide +kernel
theorem dX7_prices_35 : decode cX7_prices 35 = .ok (.iaload, 1) := by decide +kernel
theorem dX7_prices_36 : decode cX7_prices 36 = .ok (.if_icmp .ge 50, 3) := by decide +kernel
theorem dX7_prices_39 : decode cX7_prices 39 = .ok (.iload_n 3, 1) := by decide +kernel
theorem dX7_prices_40 : decode cX7_prices 40 = .ok (.aload_n 0, 1) := by decide +kernel
theorem dX7_prices_41 : decode cX7_prices 41 = .ok (.iload 4, 2) := by decide +kernel
theorem dX7_prices_43 : decode cX7_prices 43 = .ok (.invokevirtual 145, 3) := by decide +kernel
theorem dX7_prices_46 : decode cX7_prices 46 = .ok (.ifCond .eq 31, 3) := by decide +kernel
theorem dX7_prices_49 : decode cX7_prices 49 = .ok (.aload_n 0, 1) := by decide +kernel
theorem dX7_prices_50 : decode cX7_prices 50 = .ok (.getfield 19, 3) := by decide +kernel
theorem dX7_prices_53 : decode cX7_prices 53 = .ok (.bipush 17, 2) := by decide +kernel
theorem dX7_prices_55 : decode cX7_prices 55 = .ok (.iload 4, 2) := by decide +kernel
theorem dX7_prices_57 : decode cX7_prices 57 = .ok (.iadd, 1) := by decide +kernel
theorem dX7_prices_58 : decode cX7_prices 58 = .ok (.iaload, 1) := by decide +kernel
theorem dX7_prices_59 : decode cX7_prices 59 = .ok (.iload_n 1, 1) := by decide +kernel
theorem dX7_prices_60 : decode cX7_prices 60 = .ok (.if_icmp .ne 17, 3) := by decide +kernel
theorem dX7_prices_63 : decode cX7_prices 63 = .ok (.iload_n 2, 1) := by decide +kernel
theorem dX7_prices_64 : decode cX7_prices 64 = .ok (.aload_n 0, 1) := by decide +kernel
theorem dX7_prices_65 : decode cX7_prices 65 = .ok (.iload 4, 2) := by decide +kernel
theorem dX7_prices_67 : decode cX7_prices 67 = .ok (.invokevirtual 156, 3) := by decide +kernel
theorem dX7_prices_70 : decode cX7_prices 70 = .ok (.imul, 1) := by decide +kernel
theorem dX7_prices_71 : decode cX7_prices 71 = .ok (.bipush 20, 2) := by decide +kernel
theorem dX7_prices_73 : decode cX7_prices 73 = .ok (.idiv, 1) := by decide +kernel
theorem dX7_prices_74 : decode cX7_prices 74 = .ok (.goto 4, 3) := by decide +kernel
theorem dX7_prices_77 : decode cX7_prices 77 = .ok (.iconst 0, 1) := by decide +kernel
theorem dX7_prices_78 : decode cX7_prices 78 = .ok (.iadd, 1) := by decide +kernel
theorem dX7_prices_79 : decode cX7_prices 79 = .ok (.istore_n 3, 1) := by decide +kernel
theorem dX7_prices_80 : decode cX7_prices 80 = .ok (.iinc 4 1, 3) := by decide +kernel
theorem dX7_prices_83 : decode cX7_prices 83 = .ok (.goto (-55), 3) := by decide +kernel
theorem dX7_prices_86 : decode cX7_prices 86 = .ok (.iload_n 3, 1) := by decide +kernel
theorem dX7_prices_87 : decode cX7_prices 87 = .ok (.ireturn, 1) := by decide +kernel
set_option maxRecDepth 20000 in
theorem ggX7_settleAll_X7_isOpen : GoodIn wsX7_settleAll wsX7_isOpen := goodIn_r _ [8, 2, 25, 26, 27, 28, 29, 30, 31, 32, 33, 34, 35, 36, 37, 38, 39, 40, 41, 42, 43, 44, 45, 46, 47, 48] (by decide +kernel) (by decide +kernel)
set_option maxRecDepth 20000 in
theorem gX7_settleAll_X7_isOpen : GoodIn wsX7_settleAll (wsV RX7 145 RX7 yX7_isOpen wsX7_isOpen) := goodIn_app (goodIn_of _ (by decide +kernel)) ggX7_settleAll_X7_isOpen
set_option maxRecDepth 20000 in
theorem ggX7_settleAll_X7_weightOf : GoodIn wsX7_settleAll wsX7_weightOf := goodIn_r _ [12, 2, 4, 5, 6, 7, 8, 13, 14, 15, 16, 17, 18, 19, 20, 25, 26, 27, 28, 29, 30, 31, 32, 33, 34, 35, 36, 37, 38, 39, 40, 41, 42, 43, 44, 45, 46, 47, 48] (by decide +kernel) (by decide +kernel)
set_option maxRecDepth 20000 in
theorem gX7_settleAll_X7_weightOf : GoodIn wsX7_settleAll (wsV RX7 156 RX7 yX7_weightOf wsX7_weightOf) := goodIn_app (goodIn_of _ (by decide +kernel)) ggX7_settleAll_X7_weightOf
set_option maxRecDepth 20000 in
theorem ggX7_settleAll_X7_settleNow : GoodIn wsX7_settleAll wsX7_settleNow := goodIn_r _ [24, 2, 25, 26, 27, 28, 29, 30, 31, 32, 33, 34, 35, 36, 37, 38, 39, 40, 41, 42, 43, 44, 45, 46, 47, 48] (by decide +kernel) (by decide +kernel)
set_option maxRecDepth 20000 in
theorem gX7_settleAll_X7_settleNow : GoodIn wsX7_settleAll (wsV RX7 175 RX7 yX7_settleNow wsX7_settleNow) := goodIn_app (goodIn_of _ (by decide +kernel)) ggX7_settleAll_X7_settleNow
theorem dX7_settleAll_0 : decode cX7_settleAll 0 = .ok (.iconst 0, 1) := by decide +kernel
theorem dX7_settleAll_1 : decode cX7_settleAll 1 = .ok (.istore_n 3, 1) := by decide +kernel
theorem dX7_settleAll_2 : decode cX7_settleAll 2 = .ok (.iload_n 3, 1) := by decide +kernel
theorem dX7_settleAll_3 : decode cX7_settleAll 3 = .ok (.bipush 57, 2) := by decide +kernel
theorem dX7_settleAll_5 : decode cX7_settleAll 5 = .ok (.if_icmp .ge 21, 3) := by decide +kernel
theorem dX7_settleAll_8 : decode cX7_settleAll 8 = .ok (.aload_n 0, 1) := by decide +kernel
theorem dX7_settleAll_9 : decode cX7_settleAll 9 = .ok (.getfield 34, 3) := by decide +kernel
theorem dX7_settleAll_12 : decode cX7_settleAll 12 = .ok (.iload_n 3, 1) := by decide +kernel
theorem dX7_settleAll_13 : decode cX7_settleAll 13 = .ok (.aload_n 0, 1) := by decide +kernel
theorem dX7_settleAll_14 : decode cX7_settleAll 14 = .ok (.getfield 19, 3) := by decide +kernel
theorem dX7_settleAll_17 : decode cX7_settleAll 17 = .ok (.iload_n 3, 1) := by decide +kernel
theorem dX7_settleAll_18 : decode cX7_settleAll 18 = .ok (.iaload, 1) := by decide +kernel
theorem dX7_settleAll_19 : decode cX7_settleAll 19 = .ok (.iastore, 1) := by decide +kernel
theorem dX7_settleAll_20 : decode cX7_settleAll 20 = .ok (.iinc 3 1, 3) := by decide +kernel
theorem dX7_settleAll_23 : decode cX7_settleAll 23 = .ok (.goto (-21), 3) := by decide +kernel
theorem dX7_settleAll_26 : decode cX7_settleAll 26 = .ok (.iconst 0, 1) := by decide +kernel
theorem dX7_settleAll_27 : decode cX7_settleAll 27 = .ok (.istore_n 3, 1) := by decide +kernel
theorem dX7_settleAll_28 : decode cX7_settleAll 28 = .ok (.iload_n 3, 1) := by decide +kernel
theorem dX7_settleAll_29 : decode cX7_settleAll 29 = .ok (.bipush 9, 2) := by decide +kernel
theorem dX7_settleAll_31 : decode cX7_settleAll 31 = .ok (.if_icmp .gt 73, 3) := by decide +kernel
theorem dX7_settleAll_34 : decode cX7_settleAll 34 = .ok (.iconst 0, 1) := by decide +kernel
theorem dX7_settleAll_35 : decode cX7_settleAll 35 = .ok (.istore 4, 2) := by decide +kernel
theorem dX7_settleAll_37 : decode cX7_settleAll 37 = .ok (.iload 4, 2) := by decide +kernel
theorem dX7_settleAll_39 : decode cX7_settleAll 39 = .ok (.aload_n 0, 1) := by decide +kernel
theorem dX7_settleAll_40 : decode cX7_settleAll 40 = .ok (.getfield 19, 3) := by decide +kernel
theorem dX7_settleAll_43 : decode cX7_settleAll 43 = .ok (.iconst 3, 1) := by decide +kernel
theorem dX7_settleAll_44 : decode cX7_settleAll 44 = .ok (.iaload, 1) := by decide +kernel
theorem dX7_settleAll_45 : decode cX7_settleAll 45 = .ok (.if_icmp .ge 53, 3) := by decide +kernel
theorem dX7_settleAll_48 : decode cX7_settleAll 48 = .ok (.aload_n 0, 1) := by decide +kernel
theorem dX7_settleAll_49 : decode cX7_settleAll 49 = .ok (.iload 4, 2) := by decide +kernel
theorem dX7_settleAll_51 : decode cX7_settleAll 51 = .ok (.invokevirtual 145, 3) := by decide +kernel
theorem dX7_settleAll_54 : decode cX7_settleAll 54 = .ok (.ifCond .eq 38, 3) := by decide +kernel
theorem dX7_settleAll_57 : decode cX7_settleAll 57 = .ok (.aload_n 0, 1) := by decide +kernel
theorem dX7_settleAll_58 : decode cX7_settleAll 58 = .ok (.getfield 19, 3) := by decide +kernel
theorem dX7_settleAll_61 : decode cX7_settleAll 61 = .ok (.bipush 33, 2) := by decide +kernel
theorem dX7_settleAll_63 : decode cX7_settleAll 63 = .ok (.iload 4, 2) := by decide +kernel
theorem dX7_settleAll_65 : decode cX7_settleAll 65 = .ok (.iadd, 1) := by decide +kernel
theorem dX7_settleAll_66 : decode cX7_settleAll 66 = .ok (.iaload, 1) := by decide +kernel
theorem dX7_settleAll_67 : decode cX7_settleAll 67 = .ok (.iload_n 3, 1) := by decide +kernel
theorem dX7_settleAll_68 : decode cX7_settleAll 68 = .ok (.if_icmp .ne 24, 3) := by decide +kernel
theorem dX7_settleAll_71 : decode cX7_settleAll 71 = .ok (.aload_n 0, 1) := by decide +kernel
theorem dX7_settleAll_72 : decode cX7_settleAll 72 = .ok (.iload 4, 2) := by decide +kernel
theorem dX7_settleAll_74 : decode cX7_settleAll 74 = .ok (.aload_n 0, 1) := by decide +kernel
theorem dX7_settleAll_75 : decode cX7_settleAll 75 = .ok (.iload 4, 2) := by decide +kernel
theorem dX7_settleAll_77 : decode cX7_settleAll 77 = .ok (.invokevirtual 156, 3) := by decide +kernel
theorem dX7_settleAll_80 : decode cX7_settleAll 80 = .ok (.iload_n 2, 1) := by decide +kernel
theorem dX7_settleAll_81 : decode cX7_settleAll 81 = .ok (.if_icmp .lt 7, 3) := by decide +kernel
theorem dX7_settleAll_84 : decode cX7_settleAll 84 = .ok (.iconst 1, 1) := by decide +kernel
theorem dX7_settleAll_85 : decode cX7_settleAll 85 = .ok (.goto 4, 3) := by decide +kernel
theorem dX7_settleAll_88 : decode cX7_settleAll 88 = .ok (.iconst 0, 1) := by decide +kernel
theorem dX7_settleAll_89 : decode cX7_settleAll 89 = .ok (.invokevirtual 175, 3) := by decide +kernel
theorem dX7_settleAll_92 : decode cX7_settleAll 92 = .ok (.iinc 4 1, 3) := by decide +kernel
theorem dX7_settleAll_95 : decode cX7_settleAll 95 = .ok (.goto (-58), 3) := by decide +kernel
theorem dX7_settleAll_98 : decode cX7_settleAll 98 = .ok (.iinc 3 1, 3) := by decide +kernel
theorem dX7_settleAll_101 : decode cX7_settleAll 101 = .ok (.goto (-73), 3) := by decide +kernel
theorem dX7_settleAll_104 : decode cX7_settleAll 104 = .ok (.aload_n 0, 1) := by decide +kernel
theorem dX7_settleAll_105 : decode cX7_settleAll 105 = .ok (.getfield 19, 3) := by decide +kernel
theorem dX7_settleAll_108 : decode cX7_settleAll 108 = .ok (.iconst 5, 1) := by decide +kernel
theorem dX7_settleAll_109 : decode cX7_settleAll 109 = .ok (.iload_n 1, 1) := by decide +kernel
theorem dX7_settleAll_110 : decode cX7_settleAll 110 = .ok (.iadd, 1) := by decide +kernel
theorem dX7_settleAll_111 : decode cX7_settleAll 111 = .ok (.iaload, 1) := by decide +kernel
theorem dX7_settleAll_112 : decode cX7_settleAll 112 = .ok (.istore_n 3, 1) := by decide +kernel
theorem dX7_settleAll_113 : decode cX7_settleAll 113 = .ok (.aload_n 0, 1) := by decide +kernel
theorem dX7_settleAll_114 : decode cX7_settleAll 114 = .ok (.iconst 0, 1) := by decide +kernel
theorem dX7_settleAll_115 : decode cX7_settleAll 115 = .ok (.putfield 205, 3) := by decide +kernel
theorem dX7_settleAll_118 : decode cX7_settleAll 118 = .ok (.iconst 0, 1) := by decide +kernel
theorem dX7_settleAll_119 : decode cX7_settleAll 119 = .ok (.istore 4, 2) := by decide +kernel
theorem dX7_settleAll_121 : decode cX7_settleAll 121 = .ok (.iload 4, 2) := by decide +kernel
theorem dX7_settleAll_123 : decode cX7_settleAll 123 = .ok (.aload_n 0, 1) := by decide +kernel
theorem dX7_settleAll_124 : decode cX7_settleAll 124 = .ok (.getfield 19, 3) := by decide +kernel
theorem dX7_settleAll_127 : decode cX7_settleAll 127 = .ok (.iconst 3, 1) := by decide +kernel
theorem dX7_settleAll_128 : decode cX7_settleAll 128 = .ok (.iaload, 1) := by decide +kernel
theorem dX7_settleAll_129 : decode cX7_settleAll 129 = .ok (.if_icmp .ge 51, 3) := by decide +kernel
theorem dX7_settleAll_132 : decode cX7_settleAll 132 = .ok (.aload_n 0, 1) := by decide +kernel
theorem dX7_settleAll_133 : decode cX7_settleAll 133 = .ok (.dup, 1) := by decide +kernel
theorem dX7_settleAll_134 : decode cX7_settleAll 134 = .ok (.getfield 205, 3) := by decide +kernel
theorem dX7_settleAll_137 : decode cX7_settleAll 137 = .ok (.aload_n 0, 1) := by decide +kernel
theorem dX7_settleAll_138 : decode cX7_settleAll 138 = .ok (.getfield 19, 3) := by decide +kernel
theorem dX7_settleAll_141 : decode cX7_settleAll 141 = .ok (.bipush 17, 2) := by decide +kernel
theorem dX7_settleAll_143 : decode cX7_settleAll 143 = .ok (.iload 4, 2) := by decide +kernel
theorem dX7_settleAll_145 : decode cX7_settleAll 145 = .ok (.iadd, 1) := by decide +kernel
theorem dX7_settleAll_146 : decode cX7_settleAll 146 = .ok (.iaload, 1) := by decide +kernel
theorem dX7_settleAll_147 : decode cX7_settleAll 147 = .ok (.iload_n 1, 1) := by decide +kernel
theorem dX7_settleAll_148 : decode cX7_settleAll 148 = .ok (.if_icmp .ne 21, 3) := by decide +kernel
theorem dX7_settleAll_151 : decode cX7_settleAll 151 = .ok (.aload_n 0, 1) := by decide +kernel
theorem dX7_settleAll_152 : decode cX7_settleAll 152 = .ok (.getfield 19, 3) := by decide +kernel
theorem dX7_settleAll_155 : decode cX7_settleAll 155 = .ok (.bipush 49, 2) := by decide +kernel
theorem dX7_settleAll_157 : decode cX7_settleAll 157 = .ok (.iload 4, 2) := by decide +kernel
theorem dX7_settleAll_159 : decode cX7_settleAll 159 = .ok (.iadd, 1) := by decide +kernel
theorem dX7_settleAll_160 : decode cX7_settleAll 160 = .ok (.iaload, 1) := by decide +kernel
theorem dX7_settleAll_161 : decode cX7_settleAll 161 = .ok (.iconst 1, 1) := by decide +kernel
theorem dX7_settleAll_162 : decode cX7_settleAll 162 = .ok (.if_icmp .ne 7, 3) := by decide +kernel
theorem dX7_settleAll_165 : decode cX7_settleAll 165 = .ok (.iconst 1, 1) := by decide +kernel
theorem dX7_settleAll_166 : decode cX7_settleAll 166 = .ok (.goto 4, 3) := by decide +kernel
theorem dX7_settleAll_169 : decode cX7_settleAll 169 = .ok (.iconst 0, 1) := by decide +kernel
theorem dX7_settleAll_170 : decode cX7_settleAll 170 = .ok (.iadd, 1) := by decide +kernel
theorem dX7_settleAll_171 : decode cX7_settleAll 171 = .ok (.putfield 205, 3) := by decide +kernel
theorem dX7_settleAll_174 : decode cX7_settleAll 174 = .ok (.iinc 4 1, 3) := by decide +kernel
theorem dX7_settleAll_177 : decode cX7_settleAll 177 = .ok (.goto (-56), 3) := by decide +kernel
theorem dX7_settleAll_180 : decode cX7_settleAll 180 = .ok (.iconst 0, 1) := by decide +kernel
theorem dX7_settleAll_181 : decode cX7_settleAll 181 = .ok (.istore 4, 2) := by decide +kernel
theorem dX7_settleAll_183 : decode cX7_settleAll 183 = .ok (.iload 4, 2) := by decide +kernel
theorem dX7_settleAll_185 : decode cX7_settleAll 185 = .ok (.bipush 57, 2) := by decide +kernel
theorem dX7_settleAll_187 : decode cX7_settleAll 187 = .ok (.if_icmp .ge 23, 3) := by decide +kernel
theorem dX7_settleAll_190 : decode cX7_settleAll 190 = .ok (.aload_n 0, 1) := by decide +kernel
theorem dX7_settleAll_191 : decode cX7_settleAll 191 = .ok (.getfield 19, 3) := by decide +kernel
theorem dX7_settleAll_194 : decode cX7_settleAll 194 = .ok (.iload 4, 2) := by decide +kernel
theorem dX7_settleAll_196 : decode cX7_settleAll 196 = .ok (.aload_n 0, 1) := by decide +kernel
theorem dX7_settleAll_197 : decode cX7_settleAll 197 = .ok (.getfield 34, 3) := by decide +kernel
theorem dX7_settleAll_200 : decode cX7_settleAll 200 = .ok (.iload 4, 2) := by decide +kernel
theorem dX7_settleAll_202 : decode cX7_settleAll 202 = .ok (.iaload, 1) := by decide +kernel
theorem dX7_settleAll_203 : decode cX7_settleAll 203 = .ok (.iastore, 1) := by decide +kernel
theorem dX7_settleAll_204 : decode cX7_settleAll 204 = .ok (.iinc 4 1, 3) := by decide +kernel
theorem dX7_settleAll_207 : decode cX7_settleAll 207 = .ok (.goto (-24), 3) := by decide +kernel
theorem dX7_settleAll_210 : decode cX7_settleAll 210 = .ok (.iload_n 3, 1) := by decide +kernel
theorem dX7_settleAll_211 : decode cX7_settleAll 211 = .ok (.ireturn, 1) := by decide +kernel
set_option maxRecDepth 20000 in
theorem ggX7_settles_X7_isGiver : GoodIn wsX7_settles wsX7_isGiver := goodIn_r _ [8, 9, 10, 11, 7, 12, 38, 39, 40, 41, 42, 43, 44, 45, 46, 47, 48, 49, 50, 51, 52, 53, 54, 55, 56, 57, 58, 59, 60, 61] (by decide +kernel) (by decide +kernel)
set_option maxRecDepth 20000 in
theorem gX7_settles_X7_isGiver : GoodIn wsX7_settles (wsV RX7 181 RX7 yX7_isGiver wsX7_isGiver) := goodIn_app (goodIn_of _ (by decide +kernel)) ggX7_settles_X7_isGiver
set_option maxRecDepth 20000 in
theorem ggX7_settles_X7_in : GoodIn wsX7_settles wsX7_in := goodIn_r _ [12] (by decide +kernel) (by decide +kernel)
set_option maxRecDepth 20000 in
theorem gX7_settles_X7_in : GoodIn wsX7_settles (va_wsS RX7 54 yX7_in wsX7_in) := goodIn_app (goodIn_of _ (by decide +kernel)) ggX7_settles_X7_in
set_option maxRecDepth 20000 in
theorem ggX7_settles_X7_settleAll : GoodIn wsX7_settles wsX7_settleAll := goodIn_r _ [16, 17, 9, 3, 18, 19, 20, 7, 21, 22, 23, 24, 25, 26, 27, 28, 29, 30, 31, 32, 33, 34, 35, 36, 37, 38, 39, 40, 41, 42, 43, 44, 45, 46, 47, 48, 49, 50, 51, 52, 53, 54, 55, 56, 57, 58, 59, 60, 61] (by decide +kernel) (by decide +kernel)
set_option maxRecDepth 20000 in
theorem gX7_settles_X7_settleAll : GoodIn wsX7_settles (wsV RX7 210 RX7 yX7_settleAll wsX7_settleAll) := goodIn_app (goodIn_of _ (by decide +kernel)) ggX7_settles_X7_settleAll
theorem dX7_settles_0 : decode cX7_settles 0 = .ok (.aload_n 0, 1) := by decide +kernel
theorem dX7_settles_1 : decode cX7_settles 1 = .ok (.iload_n 1, 1) := by decide +kernel
theorem dX7_settles_2 : decode cX7_settles 2 = .ok (.invokevirtual 181, 3) := by decide +kernel
theorem dX7_settles_5 : decode cX7_settles 5 = .ok (.ifCond .eq 25, 3) := by decide +kernel
theorem dX7_settles_8 : decode cX7_settles 8 = .ok (.iload_n 2, 1) := by decide +kernel
theorem dX7_settles_9 : decode cX7_settles 9 = .ok (.i2l, 1) := by decide +kernel
theorem dX7_settles_10 : decode cX7_settles 10 = .ok (.lconst 0, 1) := by decide +kernel
theorem dX7_settles_11 : decode cX7_settles 11 = .ok (.ldc2_w 208, 3) := by decide +kernel
theorem dX7_settles_14 : decode cX7_settles 14 = .ok (.invokestatic 54, 3) := by decide +kernel
theorem dX7_settles_17 : decode cX7_settles 17 = .ok (.ifCond .eq 13, 3) := by decide +kernel
theorem dX7_settles_20 : decode cX7_settles 20 = .ok (.iload_n 3, 1) := by decide +kernel
theorem dX7_settles_21 : decode cX7_settles 21 = .ok (.i2l, 1) := by decide +kernel
theorem dX7_settles_22 : decode cX7_settles 22 = .ok (.lconst 0, 1) := by decide +kernel
theorem dX7_settles_23 : decode cX7_settles 23 = .ok (.lconst 1, 1) := by decide +kernel
theorem dX7_settles_24 : decode cX7_settles 24 = .ok (.invokestatic 54, 3) := by decide +kernel
theorem dX7_settles_27 : decode cX7_settles 27 = .ok (.ifCond .ne 6, 3) := by decide +kernel
theorem dX7_settles_30 : decode cX7_settles 30 = .ok (.ldc 64, 2) := by decide +kernel
theorem dX7_settles_32 : decode cX7_settles 32 = .ok (.ireturn, 1) := by decide +kernel
theorem dX7_settles_33 : decode cX7_settles 33 = .ok (.aload_n 0, 1) := by decide +kernel
theorem dX7_settles_34 : decode cX7_settles 34 = .ok (.iload_n 1, 1) := by decide +kernel
theorem dX7_settles_35 : decode cX7_settles 35 = .ok (.iload_n 2, 1) := by decide +kernel
theorem dX7_settles_36 : decode cX7_settles 36 = .ok (.invokevirtual 210, 3) := by decide +kernel
theorem dX7_settles_39 : decode cX7_settles 39 = .ok (.istore 4, 2) := by decide +kernel
theorem dX7_settles_41 : decode cX7_settles 41 = .ok (.iload_n 3, 1) := by decide +kernel
theorem dX7_settles_42 : decode cX7_settles 42 = .ok (.ifCond .ne 8, 3) := by decide +kernel
theorem dX7_settles_45 : decode cX7_settles 45 = .ok (.iload 4, 2) := by decide +kernel
theorem dX7_settles_47 : decode cX7_settles 47 = .ok (.goto 7, 3) := by decide +kernel
theorem dX7_settles_50 : decode cX7_settles 50 = .ok (.aload_n 0, 1) := by decide +kernel
theorem dX7_settles_51 : decode cX7_settles 51 = .ok (.getfield 205, 3) := by decide +kernel
theorem dX7_settles_54 : decode cX7_settles 54 = .ok (.ireturn, 1) := by decide +kernel
set_option maxRecDepth 20000 in
theorem ggX7_bestHeavy_X7_isGiver : GoodIn wsX7_bestHeavy wsX7_isGiver := goodIn_r _ [6, 7, 8, 9, 5, 10, 37, 38, 39, 40, 41, 42, 43, 44, 45, 46, 47, 48, 49, 50, 51, 52, 53, 54, 55, 56, 57, 58, 59, 60] (by decide +kernel) (by decide +kernel)
set_option maxRecDepth 20000 in
theorem gX7_bestHeavy_X7_isGiver : GoodIn wsX7_bestHeavy (wsV RX7 181 RX7 yX7_isGiver wsX7_isGiver) := goodIn_app (goodIn_of _ (by decide +kernel)) ggX7_bestHeavy_X7_isGiver
set_option maxRecDepth 20000 in
theorem ggX7_bestHeavy_X7_settleAll : GoodIn wsX7_bestHeavy wsX7_settleAll := goodIn_r _ [14, 15, 7, 16, 17, 18, 19, 5, 20, 21, 22, 23, 24, 25, 26, 27, 28, 29, 30, 31, 32, 33, 34, 35, 36, 37, 38, 39, 40, 41, 42, 43, 44, 45, 46, 47, 48, 49, 50, 51, 52, 53, 54, 55, 56, 57, 58, 59, 60] (by decide +kernel) (by decide +kernel)
set_option maxRecDepth 20000 in
theorem gX7_bestHeavy_X7_settleAll : GoodIn wsX7_bestHeavy (wsV RX7 210 RX7 yX7_settleAll wsX7_settleAll) := goodIn_app (goodIn_of _ (by decide +kernel)) ggX7_bestHeavy_X7_settleAll
theorem dX7_bestHeavy_0 : decode cX7_bestHeavy 0 = .ok (.aload_n 0, 1) := by decide +kernel
theorem dX7_bestHeavy_1 : decode cX7_bestHeavy 1 = .ok (.iload_n 1, 1) := by decide +kernel
theorem dX7_bestHeavy_2 : decode cX7_bestHeavy 2 = .ok (.invokevirtual 181, 3) := by decide +kernel
theorem dX7_bestHeavy_5 : decode cX7_bestHeavy 5 = .ok (.ifCond .ne 6, 3) := by decide +kernel
theorem dX7_bestHeavy_8 : decode cX7_bestHeavy 8 = .ok (.ldc 64, 2) := by decide +kernel
theorem dX7_bestHeavy_10 : decode cX7_bestHeavy 10 = .ok (.ireturn, 1) := by decide +kernel
theorem dX7_bestHeavy_11 : decode cX7_bestHeavy 11 = .ok (.iconst 0, 1) := by decide +kernel
theorem dX7_bestHeavy_12 : decode cX7_bestHeavy 12 = .ok (.istore_n 2, 1) := by decide +kernel
theorem dX7_bestHeavy_13 : decode cX7_bestHeavy 13 = .ok (.iconst (-1), 1) := by decide +kernel
theorem dX7_bestHeavy_14 : decode cX7_bestHeavy 14 = .ok (.istore_n 3, 1) := by decide +kernel
theorem dX7_bestHeavy_15 : decode cX7_bestHeavy 15 = .ok (.iconst 0, 1) := by decide +kernel
theorem dX7_bestHeavy_16 : decode cX7_bestHeavy 16 = .ok (.istore 4, 2) := by decide +kernel
theorem dX7_bestHeavy_18 : decode cX7_bestHeavy 18 = .ok (.iload 4, 2) := by decide +kernel
theorem dX7_bestHeavy_20 : decode cX7_bestHeavy 20 = .ok (.bipush 20, 2) := by decide +kernel
theorem dX7_bestHeavy_22 : decode cX7_bestHeavy 22 = .ok (.if_icmp .gt 44, 3) := by decide +kernel
theorem dX7_bestHeavy_25 : decode cX7_bestHeavy 25 = .ok (.aload_n 0, 1) := by decide +kernel
theorem dX7_bestHeavy_26 : decode cX7_bestHeavy 26 = .ok (.iload_n 1, 1) := by decide +kernel
theorem dX7_bestHeavy_27 : decode cX7_bestHeavy 27 = .ok (.iload 4, 2) := by decide +kernel
theorem dX7_bestHeavy_29 : decode cX7_bestHeavy 29 = .ok (.invokevirtual 210, 3) := by decide +kernel
theorem dX7_bestHeavy_32 : decode cX7_bestHeavy 32 = .ok (.istore 5, 2) := by decide +kernel
theorem dX7_bestHeavy_34 : decode cX7_bestHeavy 34 = .ok (.iload 5, 2) := by decide +kernel
theorem dX7_bestHeavy_36 : decode cX7_bestHeavy 36 = .ok (.iload_n 3, 1) := by decide +kernel
theorem dX7_bestHeavy_37 : decode cX7_bestHeavy 37 = .ok (.if_icmp .le 8, 3) := by decide +kernel
theorem dX7_bestHeavy_40 : decode cX7_bestHeavy 40 = .ok (.iload 4, 2) := by decide +kernel
theorem dX7_bestHeavy_42 : decode cX7_bestHeavy 42 = .ok (.goto 4, 3) := by decide +kernel
theorem dX7_bestHeavy_45 : decode cX7_bestHeavy 45 = .ok (.iload_n 2, 1) := by decide +kernel
theorem dX7_bestHeavy_46 : decode cX7_bestHeavy 46 = .ok (.istore_n 2, 1) := by decide +kernel
theorem dX7_bestHeavy_47 : decode cX7_bestHeavy 47 = .ok (.iload 5, 2) := by decide +kernel
theorem dX7_bestHeavy_49 : decode cX7_bestHeavy 49 = .ok (.iload_n 3, 1) := by decide +kernel
theorem dX7_bestHeavy_50 : decode cX7_bestHeavy 50 = .ok (.if_icmp .le 8, 3) := by decide +kernel
theorem dX7_bestHeavy_53 : decode cX7_bestHeavy 53 = .ok (.iload 5, 2) := by decide +kernel
theorem dX7_bestHeavy_55 : decode cX7_bestHeavy 55 = .ok (.goto 4, 3) := by decide +kernel
theorem dX7_bestHeavy_58 : decode cX7_bestHeavy 58 = .ok (.iload_n 3, 1) := by decide +kernel
theorem dX7_bestHeavy_59 : decode cX7_bestHeavy 59 = .ok (.istore_n 3, 1) := by decide +kernel
theorem dX7_bestHeavy_60 : decode cX7_bestHeavy 60 = .ok (.iinc 4 1, 3) := by decide +kernel
theorem dX7_bestHeavy_63 : decode cX7_bestHeavy 63 = .ok (.goto (-45), 3) := by decide +kernel
theorem dX7_bestHeavy_66 : decode cX7_bestHeavy 66 = .ok (.iload_n 2, 1) := by decide +kernel
theorem dX7_bestHeavy_67 : decode cX7_bestHeavy 67 = .ok (.ireturn, 1) := by decide +kernel
set_option maxRecDepth 20000 in
theorem ggX7_lacks_X7_find : GoodIn wsX7_lacks wsX7_find := goodIn_r _ [6, 7, 8, 12, 13, 14, 15, 16, 17, 18, 19, 20, 21, 22, 23, 24, 25, 26, 27, 28, 29, 30, 31, 32, 33, 34, 35] (by decide +kernel) (by decide +kernel)
set_option maxRecDepth 20000 in
theorem gX7_lacks_X7_find : GoodIn wsX7_lacks (wsV RX7 65 RX7 yX7_find wsX7_find) := goodIn_app (goodIn_of _ (by decide +kernel)) ggX7_lacks_X7_find
set_option maxRecDepth 20000 in
theorem ggX7_lacks_X7_in : GoodIn wsX7_lacks wsX7_in := goodIn_r _ [11] (by decide +kernel) (by decide +kernel)
set_option maxRecDepth 20000 in
theorem gX7_lacks_X7_in : GoodIn wsX7_lacks (va_wsS RX7 54 yX7_in wsX7_in) := goodIn_app (goodIn_of _ (by decide +kernel)) ggX7_lacks_X7_in
theorem dX7_lacks_0 : decode cX7_lacks 0 = .ok (.aload_n 0, 1) := by decide +kernel
theorem dX7_lacks_1 : decode cX7_lacks 1 = .ok (.getfield 13, 3) := by decide +kernel
theorem dX7_lacks_4 : decode cX7_lacks 4 = .ok (.iload_n 1, 1) := by decide +kernel
theorem dX7_lacks_5 : decode cX7_lacks 5 = .ok (.iaload, 1) := by decide +kernel
theorem dX7_lacks_6 : decode cX7_lacks 6 = .ok (.ifCond .ge 9, 3) := by decide +kernel
theorem dX7_lacks_9 : decode cX7_lacks 9 = .ok (.aload_n 0, 1) := by decide +kernel
theorem dX7_lacks_10 : decode cX7_lacks 10 = .ok (.iconst 1, 1) := by decide +kernel
theorem dX7_lacks_11 : decode cX7_lacks 11 = .ok (.invokevirtual 65, 3) := by decide +kernel
theorem dX7_lacks_14 : decode cX7_lacks 14 = .ok (.ireturn, 1) := by decide +kernel
theorem dX7_lacks_15 : decode cX7_lacks 15 = .ok (.iload_n 2, 1) := by decide +kernel
theorem dX7_lacks_16 : decode cX7_lacks 16 = .ok (.i2l, 1) := by decide +kernel
theorem dX7_lacks_17 : decode cX7_lacks 17 = .ok (.lconst 0, 1) := by decide +kernel
theorem dX7_lacks_18 : decode cX7_lacks 18 = .ok (.aload_n 0, 1) := by decide +kernel
theorem dX7_lacks_19 : decode cX7_lacks 19 = .ok (.getfield 13, 3) := by decide +kernel
theorem dX7_lacks_22 : decode cX7_lacks 22 = .ok (.iload_n 1, 1) := by decide +kernel
theorem dX7_lacks_23 : decode cX7_lacks 23 = .ok (.iaload, 1) := by decide +kernel
theorem dX7_lacks_24 : decode cX7_lacks 24 = .ok (.iload_n 3, 1) := by decide +kernel
theorem dX7_lacks_25 : decode cX7_lacks 25 = .ok (.isub, 1) := by decide +kernel
theorem dX7_lacks_26 : decode cX7_lacks 26 = .ok (.i2l, 1) := by decide +kernel
theorem dX7_lacks_27 : decode cX7_lacks 27 = .ok (.invokestatic 54, 3) := by decide +kernel
theorem dX7_lacks_30 : decode cX7_lacks 30 = .ok (.ifCond .eq 7, 3) := by decide +kernel
theorem dX7_lacks_33 : decode cX7_lacks 33 = .ok (.iconst 0, 1) := by decide +kernel
theorem dX7_lacks_34 : decode cX7_lacks 34 = .ok (.goto 8, 3) := by decide +kernel
theorem dX7_lacks_37 : decode cX7_lacks 37 = .ok (.aload_n 0, 1) := by decide +kernel
theorem dX7_lacks_38 : decode cX7_lacks 38 = .ok (.iconst 2, 1) := by decide +kernel
theorem dX7_lacks_39 : decode cX7_lacks 39 = .ok (.invokevirtual 65, 3) := by decide +kernel
theorem dX7_lacks_42 : decode cX7_lacks 42 = .ok (.ireturn, 1) := by decide +kernel
set_option maxRecDepth 20000 in
theorem ggX7_isSo_X7_sumOf : GoodIn wsX7_isSo wsX7_sumOf := goodIn_r _ [6, 7, 8, 9, 5, 10, 11, 12, 13, 14, 15, 16, 17, 18, 19, 20, 21, 22, 23, 24, 25, 26, 30, 31, 32, 33, 34, 35, 36, 37, 38, 39, 40, 41, 42, 43, 44, 45, 46, 47, 48, 49, 50, 51, 52, 53] (by decide +kernel) (by decide +kernel)
set_option maxRecDepth 20000 in
theorem gX7_isSo_X7_sumOf : GoodIn wsX7_isSo (wsV RX7 159 RX7 yX7_sumOf wsX7_sumOf) := goodIn_app (goodIn_of _ (by decide +kernel)) ggX7_isSo_X7_sumOf
set_option maxRecDepth 20000 in
theorem ggX7_isSo_X7_readBy : GoodIn wsX7_isSo wsX7_readBy := goodIn_r _ [29] (by decide +kernel) (by decide +kernel)
set_option maxRecDepth 20000 in
theorem gX7_isSo_X7_readBy : GoodIn wsX7_isSo (va_wsS RX7 162 yX7_readBy wsX7_readBy) := goodIn_app (goodIn_of _ (by decide +kernel)) ggX7_isSo_X7_readBy
theorem dX7_isSo_0 : decode cX7_isSo 0 = .ok (.iconst 1, 1) := by decide +kernel
theorem dX7_isSo_1 : decode cX7_isSo 1 = .ok (.istore 5, 2) := by decide +kernel
theorem dX7_isSo_3 : decode cX7_isSo 3 = .ok (.iconst 0, 1) := by decide +kernel
theorem dX7_isSo_4 : decode cX7_isSo 4 = .ok (.istore 6, 2) := by decide +kernel
theorem dX7_isSo_6 : decode cX7_isSo 6 = .ok (.iload 6, 2) := by decide +kernel
theorem dX7_isSo_8 : decode cX7_isSo 8 = .ok (.iload_n 2, 1) := by decide +kernel
theorem dX7_isSo_9 : decode cX7_isSo 9 = .ok (.if_icmp .ge 58, 3) := by decide +kernel
theorem dX7_isSo_12 : decode cX7_isSo 12 = .ok (.iload 5, 2) := by decide +kernel
theorem dX7_isSo_14 : decode cX7_isSo 14 = .ok (.ifCond .eq 44, 3) := by decide +kernel
theorem dX7_isSo_17 : decode cX7_isSo 17 = .ok (.aload_n 0, 1) := by decide +kernel
theorem dX7_isSo_18 : decode cX7_isSo 18 = .ok (.aload_n 0, 1) := by decide +kernel
theorem dX7_isSo_19 : decode cX7_isSo 19 = .ok (.getfield 16, 3) := by decide +kernel
theorem dX7_isSo_22 : decode cX7_isSo 22 = .ok (.iload_n 1, 1) := by decide +kernel
theorem dX7_isSo_23 : decode cX7_isSo 23 = .ok (.iconst 2, 1) := by decide +kernel
theorem dX7_isSo_24 : decode cX7_isSo 24 = .ok (.iload 6, 2) := by decide +kernel
theorem dX7_isSo_26 : decode cX7_isSo 26 = .ok (.imul, 1) := by decide +kernel
theorem dX7_isSo_27 : decode cX7_isSo 27 = .ok (.iadd, 1) := by decide +kernel
theorem dX7_isSo_28 : decode cX7_isSo 28 = .ok (.iaload, 1) := by decide +kernel
theorem dX7_isSo_29 : decode cX7_isSo 29 = .ok (.invokevirtual 159, 3) := by decide +kernel
theorem dX7_isSo_32 : decode cX7_isSo 32 = .ok (.iload_n 3, 1) := by decide +kernel
theorem dX7_isSo_33 : decode cX7_isSo 33 = .ok (.iload 4, 2) := by decide +kernel
theorem dX7_isSo_35 : decode cX7_isSo 35 = .ok (.invokestatic 162, 3) := by decide +kernel
theorem dX7_isSo_38 : decode cX7_isSo 38 = .ok (.aload_n 0, 1) := by decide +kernel
theorem dX7_isSo_39 : decode cX7_isSo 39 = .ok (.getfield 16, 3) := by decide +kernel
theorem dX7_isSo_42 : decode cX7_isSo 42 = .ok (.iload_n 1, 1) := by decide +kernel
theorem dX7_isSo_43 : decode cX7_isSo 43 = .ok (.iconst 2, 1) := by decide +kernel
theorem dX7_isSo_44 : decode cX7_isSo 44 = .ok (.iload 6, 2) := by decide +kernel
theorem dX7_isSo_46 : decode cX7_isSo 46 = .ok (.imul, 1) := by decide +kernel
theorem dX7_isSo_47 : decode cX7_isSo 47 = .ok (.iadd, 1) := by decide +kernel
theorem dX7_isSo_48 : decode cX7_isSo 48 = .ok (.iconst 1, 1) := by decide +kernel
theorem dX7_isSo_49 : decode cX7_isSo 49 = .ok (.iadd, 1) := by decide +kernel
theorem dX7_isSo_50 : decode cX7_isSo 50 = .ok (.iaload, 1) := by decide +kernel
theorem dX7_isSo_51 : decode cX7_isSo 51 = .ok (.if_icmp .ne 7, 3) := by decide +kernel
theorem dX7_isSo_54 : decode cX7_isSo 54 = .ok (.iconst 1, 1) := by decide +kernel
theorem dX7_isSo_55 : decode cX7_isSo 55 = .ok (.goto 4, 3) := by decide +kernel
theorem dX7_isSo_58 : decode cX7_isSo 58 = .ok (.iconst 0, 1) := by decide +kernel
theorem dX7_isSo_59 : decode cX7_isSo 59 = .ok (.istore 5, 2) := by decide +kernel
theorem dX7_isSo_61 : decode cX7_isSo 61 = .ok (.iinc 6 1, 3) := by decide +kernel
theorem dX7_isSo_64 : decode cX7_isSo 64 = .ok (.goto (-58), 3) := by decide +kernel
theorem dX7_isSo_67 : decode cX7_isSo 67 = .ok (.iload 5, 2) := by decide +kernel
theorem dX7_isSo_69 : decode cX7_isSo 69 = .ok (.ireturn, 1) := by decide +kernel
set_option maxRecDepth 20000 in
theorem ggX7_found_X7_isRow : GoodIn wsX7_found wsX7_isRow := goodIn_r _ [10, 11, 12, 13, 9, 14] (by decide +kernel) (by decide +kernel)
set_option maxRecDepth 20000 in
theorem gX7_found_X7_isRow : GoodIn wsX7_found (va_wsS RX7 58 yX7_isRow wsX7_isRow) := goodIn_app (goodIn_of _ (by decide +kernel)) ggX7_found_X7_isRow
set_option maxRecDepth 20000 in
theorem ggX7_found_X7_in : GoodIn wsX7_found wsX7_in := goodIn_r _ [14] (by decide +kernel) (by decide +kernel)
set_option maxRecDepth 20000 in
theorem gX7_found_X7_in : GoodIn wsX7_found (va_wsS RX7 54 yX7_in wsX7_in) := goodIn_app (goodIn_of _ (by decide +kernel)) ggX7_found_X7_in
set_option maxRecDepth 20000 in
theorem ggX7_found_X7_lacks : GoodIn wsX7_found wsX7_lacks := goodIn_r _ [18, 19, 20, 21, 22, 9, 23, 24, 25, 12, 13, 14, 64, 65, 66, 67, 68, 69, 70, 71, 72, 73, 74, 75, 76, 77, 78, 79, 80, 81, 82, 83, 84, 85, 86, 87] (by decide +kernel) (by decide +kernel)
set_option maxRecDepth 20000 in
theorem gX7_found_X7_lacks : GoodIn wsX7_found (wsV RX7 213 RX7 yX7_lacks wsX7_lacks) := goodIn_app (goodIn_of _ (by decide +kernel)) ggX7_found_X7_lacks
set_option maxRecDepth 20000 in
theorem ggX7_found_X7_isSet : GoodIn wsX7_found wsX7_isSet := goodIn_r _ [29, 6, 12, 13, 9, 14, 64, 65, 66, 67, 68, 69, 70, 71, 72, 73, 74, 75, 76, 77, 78, 79, 80, 81, 82, 83, 84, 85, 86, 87] (by decide +kernel) (by decide +kernel)
set_option maxRecDepth 20000 in
theorem gX7_found_X7_isSet : GoodIn wsX7_found (wsV RX7 184 RX7 yX7_isSet wsX7_isSet) := goodIn_app (goodIn_of _ (by decide +kernel)) ggX7_found_X7_isSet
set_option maxRecDepth 20000 in
theorem ggX7_found_X7_isSo : GoodIn wsX7_found wsX7_isSo := goodIn_r _ [33, 5, 34, 35, 36, 9, 37, 6, 38, 39, 40, 41, 42, 43, 44, 45, 46, 47, 48, 49, 50, 51, 52, 53, 54, 55, 56, 57, 58, 59, 64, 65, 66, 67, 68, 69, 70, 71, 72, 73, 74, 75, 76, 77, 78, 79, 80, 81, 82, 83, 84, 85, 86, 87] (by decide +kernel) (by decide +kernel)
set_option maxRecDepth 20000 in
theorem gX7_found_X7_isSo : GoodIn wsX7_found (wsV RX7 216 RX7 yX7_isSo wsX7_isSo) := goodIn_app (goodIn_of _ (by decide +kernel)) ggX7_found_X7_isSo
set_option maxRecDepth 20000 in
theorem ggX7_found_X7_well : GoodIn wsX7_found wsX7_well := goodIn_r _ [63, 24, 64, 65, 66, 67, 68, 69, 70, 71, 72, 73, 74, 75, 76, 77, 78, 79, 80, 81, 82, 83, 84, 85, 86, 87] (by decide +kernel) (by decide +kernel)
set_option maxRecDepth 20000 in
theorem gX7_found_X7_well : GoodIn wsX7_found (wsV RX7 69 RX7 yX7_well wsX7_well) := goodIn_app (goodIn_of _ (by decide +kernel)) ggX7_found_X7_well
theorem dX7_found_0 : decode cX7_found 0 = .ok (.aload_n 0, 1) := by decide +kernel
theorem dX7_found_1 : decode cX7_found 1 = .ok (.getfield 135, 3) := by decide +kernel
theorem dX7_found_4 : decode cX7_found 4 = .ok (.ifCond .ne 6, 3) := by decide +kernel
theorem dX7_found_7 : decode cX7_found 7 = .ok (.ldc 168, 2) := by decide +kernel
theorem dX7_found_9 : decode cX7_found 9 = .ok (.ireturn, 1) := by decide +kernel
theorem dX7_found_10 : decode cX7_found 10 = .ok (.iload_n 1, 1) := by decide +kernel
theorem dX7_found_11 : decode cX7_found 11 = .ok (.invokestatic 58, 3) := by decide +kernel
theorem dX7_found_14 : decode cX7_found 14 = .ok (.ifCond .eq 26, 3) := by decide +kernel
theorem dX7_found_17 : decode cX7_found 17 = .ok (.iload_n 3, 1) := by decide +kernel
theorem dX7_found_18 : decode cX7_found 18 = .ok (.i2l, 1) := by decide +kernel
theorem dX7_found_19 : decode cX7_found 19 = .ok (.lconst 1, 1) := by decide +kernel
theorem dX7_found_20 : decode cX7_found 20 = .ok (.ldc2_w 199, 3) := by decide +kernel
theorem dX7_found_23 : decode cX7_found 23 = .ok (.invokestatic 54, 3) := by decide +kernel
theorem dX7_found_26 : decode cX7_found 26 = .ok (.ifCond .eq 14, 3) := by decide +kernel
theorem dX7_found_29 : decode cX7_found 29 = .ok (.iload 4, 2) := by decide +kernel
theorem dX7_found_31 : decode cX7_found 31 = .ok (.i2l, 1) := by decide +kernel
theorem dX7_found_32 : decode cX7_found 32 = .ok (.lconst 0, 1) := by decide +kernel
theorem dX7_found_33 : decode cX7_found 33 = .ok (.lconst 1, 1) := by decide +kernel
theorem dX7_found_34 : decode cX7_found 34 = .ok (.invokestatic 54, 3) := by decide +kernel
theorem dX7_found_37 : decode cX7_found 37 = .ok (.ifCond .ne 6, 3) := by decide +kernel
theorem dX7_found_40 : decode cX7_found 40 = .ok (.ldc 64, 2) := by decide +kernel
theorem dX7_found_42 : decode cX7_found 42 = .ok (.ireturn, 1) := by decide +kernel
theorem dX7_found_43 : decode cX7_found 43 = .ok (.aload_n 0, 1) := by decide +kernel
theorem dX7_found_44 : decode cX7_found 44 = .ok (.iload_n 1, 1) := by decide +kernel
theorem dX7_found_45 : decode cX7_found 45 = .ok (.iload_n 2, 1) := by decide +kernel
theorem dX7_found_46 : decode cX7_found 46 = .ok (.iconst 2, 1) := by decide +kernel
theorem dX7_found_47 : decode cX7_found 47 = .ok (.iload_n 3, 1) := by decide +kernel
theorem dX7_found_48 : decode cX7_found 48 = .ok (.imul, 1) := by decide +kernel
theorem dX7_found_49 : decode cX7_found 49 = .ok (.invokevirtual 213, 3) := by decide +kernel
theorem dX7_found_52 : decode cX7_found 52 = .ok (.istore 5, 2) := by decide +kernel
theorem dX7_found_54 : decode cX7_found 54 = .ok (.iload 5, 2) := by decide +kernel
theorem dX7_found_56 : decode cX7_found 56 = .ok (.ifCond .ge 6, 3) := by decide +kernel
theorem dX7_found_59 : decode cX7_found 59 = .ok (.iload 5, 2) := by decide +kernel
theorem dX7_found_61 : decode cX7_found 61 = .ok (.ireturn, 1) := by decide +kernel
theorem dX7_found_62 : decode cX7_found 62 = .ok (.bipush 40, 2) := by decide +kernel
theorem dX7_found_64 : decode cX7_found 64 = .ok (.iload_n 1, 1) := by decide +kernel
theorem dX7_found_65 : decode cX7_found 65 = .ok (.imul, 1) := by decide +kernel
theorem dX7_found_66 : decode cX7_found 66 = .ok (.iload_n 2, 1) := by decide +kernel
theorem dX7_found_67 : decode cX7_found 67 = .ok (.iadd, 1) := by decide +kernel
theorem dX7_found_68 : decode cX7_found 68 = .ok (.istore 6, 2) := by decide +kernel
theorem dX7_found_70 : decode cX7_found 70 = .ok (.iconst 0, 1) := by decide +kernel
theorem dX7_found_71 : decode cX7_found 71 = .ok (.istore 7, 2) := by decide +kernel
theorem dX7_found_73 : decode cX7_found 73 = .ok (.iload 7, 2) := by decide +kernel
theorem dX7_found_75 : decode cX7_found 75 = .ok (.iload_n 3, 1) := by decide +kernel
theorem dX7_found_76 : decode cX7_found 76 = .ok (.if_icmp .ge 31, 3) := by decide +kernel
theorem dX7_found_79 : decode cX7_found 79 = .ok (.aload_n 0, 1) := by decide +kernel
theorem dX7_found_80 : decode cX7_found 80 = .ok (.aload_n 0, 1) := by decide +kernel
theorem dX7_found_81 : decode cX7_found 81 = .ok (.getfield 16, 3) := by decide +kernel
theorem dX7_found_84 : decode cX7_found 84 = .ok (.iload 6, 2) := by decide +kernel
theorem dX7_found_86 : decode cX7_found 86 = .ok (.iconst 2, 1) := by decide +kernel
theorem dX7_found_87 : decode cX7_found 87 = .ok (.iload 7, 2) := by decide +kernel
theorem dX7_found_89 : decode cX7_found 89 = .ok (.imul, 1) := by decide +kernel
theorem dX7_found_90 : decode cX7_found 90 = .ok (.iadd, 1) := by decide +kernel
theorem dX7_found_91 : decode cX7_found 91 = .ok (.iaload, 1) := by decide +kernel
theorem dX7_found_92 : decode cX7_found 92 = .ok (.invokevirtual 184, 3) := by decide +kernel
theorem dX7_found_95 : decode cX7_found 95 = .ok (.ifCond .ne 6, 3) := by decide +kernel
theorem dX7_found_98 : decode cX7_found 98 = .ok (.ldc 64, 2) := by decide +kernel
theorem dX7_found_100 : decode cX7_found 100 = .ok (.ireturn, 1) := by decide +kernel
theorem dX7_found_101 : decode cX7_found 101 = .ok (.iinc 7 1, 3) := by decide +kernel
theorem dX7_found_104 : decode cX7_found 104 = .ok (.goto (-31), 3) := by decide +kernel
theorem dX7_found_107 : decode cX7_found 107 = .ok (.iconst 0, 1) := by decide +kernel
theorem dX7_found_108 : decode cX7_found 108 = .ok (.istore 7, 2) := by decide +kernel
theorem dX7_found_110 : decode cX7_found 110 = .ok (.iconst 0, 1) := by decide +kernel
theorem dX7_found_111 : decode cX7_found 111 = .ok (.istore 8, 2) := by decide +kernel
theorem dX7_found_113 : decode cX7_found 113 = .ok (.iload 8, 2) := by decide +kernel
theorem dX7_found_115 : decode cX7_found 115 = .ok (.bipush 10, 2) := by decide +kernel
theorem dX7_found_117 : decode cX7_found 117 = .ok (.if_icmp .ge 83, 3) := by decide +kernel
theorem dX7_found_120 : decode cX7_found 120 = .ok (.iload 4, 2) := by decide +kernel
theorem dX7_found_122 : decode cX7_found 122 = .ok (.ifCond .ne 21, 3) := by decide +kernel
theorem dX7_found_125 : decode cX7_found 125 = .ok (.aload_n 0, 1) := by decide +kernel
theorem dX7_found_126 : decode cX7_found 126 = .ok (.iload 6, 2) := by decide +kernel
theorem dX7_found_128 : decode cX7_found 128 = .ok (.iload_n 3, 1) := by decide +kernel
theorem dX7_found_129 : decode cX7_found 129 = .ok (.iload 8, 2) := by decide +kernel
theorem dX7_found_131 : decode cX7_found 131 = .ok (.aload_n 0, 1) := by decide +kernel
theorem dX7_found_132 : decode cX7_found 132 = .ok (.getfield 19, 3) := by decide +kernel
theorem dX7_found_135 : decode cX7_found 135 = .ok (.iconst 1, 1) := by decide +kernel
theorem dX7_found_136 : decode cX7_found 136 = .ok (.iaload, 1) := by decide +kernel
theorem dX7_found_137 : decode cX7_found 137 = .ok (.invokevirtual 216, 3) := by decide +kernel
theorem dX7_found_140 : decode cX7_found 140 = .ok (.goto 34, 3) := by decide +kernel
theorem dX7_found_143 : decode cX7_found 143 = .ok (.iload 8, 2) := by decide +kernel
theorem dX7_found_145 : decode cX7_found 145 = .ok (.iconst 5, 1) := by decide +kernel
theorem dX7_found_146 : decode cX7_found 146 = .ok (.if_icmp .ge 27, 3) := by decide +kernel
theorem dX7_found_149 : decode cX7_found 149 = .ok (.aload_n 0, 1) := by decide +kernel
theorem dX7_found_150 : decode cX7_found 150 = .ok (.iload 6, 2) := by decide +kernel
theorem dX7_found_152 : decode cX7_found 152 = .ok (.iload_n 3, 1) := by decide +kernel
theorem dX7_found_153 : decode cX7_found 153 = .ok (.aload_n 0, 1) := by decide +kernel
theorem dX7_found_154 : decode cX7_found 154 = .ok (.getfield 19, 3) := by decide +kernel
theorem dX7_found_157 : decode cX7_found 157 = .ok (.iconst 0, 1) := by decide +kernel
theorem dX7_found_158 : decode cX7_found 158 = .ok (.iaload, 1) := by decide +kernel
theorem dX7_found_159 : decode cX7_found 159 = .ok (.iload 8, 2) := by decide +kernel
theorem dX7_found_161 : decode cX7_found 161 = .ok (.iconst 1, 1) := by decide +kernel
theorem dX7_found_162 : decode cX7_found 162 = .ok (.iadd, 1) := by decide +kernel
theorem dX7_found_163 : decode cX7_found 163 = .ok (.invokevirtual 216, 3) := by decide +kernel
theorem dX7_found_166 : decode cX7_found 166 = .ok (.ifCond .eq 7, 3) := by decide +kernel
theorem dX7_found_169 : decode cX7_found 169 = .ok (.iconst 1, 1) := by decide +kernel
theorem dX7_found_170 : decode cX7_found 170 = .ok (.goto 4, 3) := by decide +kernel
theorem dX7_found_173 : decode cX7_found 173 = .ok (.iconst 0, 1) := by decide +kernel
theorem dX7_found_174 : decode cX7_found 174 = .ok (.istore 9, 2) := by decide +kernel
theorem dX7_found_176 : decode cX7_found 176 = .ok (.iload 7, 2) := by decide +kernel
theorem dX7_found_178 : decode cX7_found 178 = .ok (.iload 9, 2) := by decide +kernel
theorem dX7_found_180 : decode cX7_found 180 = .ok (.ifCond .eq 10, 3) := by decide +kernel
theorem dX7_found_183 : decode cX7_found 183 = .ok (.iconst 1, 1) := by decide +kernel
theorem dX7_found_184 : decode cX7_found 184 = .ok (.iload 8, 2) := by decide +kernel
theorem dX7_found_186 : decode cX7_found 186 = .ok (.ishl, 1) := by decide +kernel
theorem dX7_found_187 : decode cX7_found 187 = .ok (.goto 4, 3) := by decide +kernel
theorem dX7_found_190 : decode cX7_found 190 = .ok (.iconst 0, 1) := by decide +kernel
theorem dX7_found_191 : decode cX7_found 191 = .ok (.ior, 1) := by decide +kernel
theorem dX7_found_192 : decode cX7_found 192 = .ok (.istore 7, 2) := by decide +kernel
theorem dX7_found_194 : decode cX7_found 194 = .ok (.iinc 8 1, 3) := by decide +kernel
theorem dX7_found_197 : decode cX7_found 197 = .ok (.goto (-84), 3) := by decide +kernel
theorem dX7_found_200 : decode cX7_found 200 = .ok (.aload_n 0, 1) := by decide +kernel
theorem dX7_found_201 : decode cX7_found 201 = .ok (.iload 7, 2) := by decide +kernel
theorem dX7_found_203 : decode cX7_found 203 = .ok (.invokevirtual 69, 3) := by decide +kernel
theorem dX7_found_206 : decode cX7_found 206 = .ok (.ireturn, 1) := by decide +kernel
set_option maxRecDepth 20000 in
theorem ggX7_keepsFound_X7_isGiver : GoodIn wsX7_keepsFound wsX7_isGiver := goodIn_r _ [8, 2, 9, 10, 7, 11, 39, 40, 41, 42, 43, 44, 45, 46, 47, 48, 49, 50, 51, 52, 53, 54, 55, 56, 57, 58, 59, 60, 61, 62] (by decide +kernel) (by decide +kernel)
set_option maxRecDepth 20000 in
theorem gX7_keepsFound_X7_isGiver : GoodIn wsX7_keepsFound (wsV RX7 181 RX7 yX7_isGiver wsX7_isGiver) := goodIn_app (goodIn_of _ (by decide +kernel)) ggX7_keepsFound_X7_isGiver
set_option maxRecDepth 20000 in
theorem ggX7_keepsFound_X7_isRow : GoodIn wsX7_keepsFound wsX7_isRow := goodIn_r _ [14, 15, 9, 10, 7, 11] (by decide +kernel) (by decide +kernel)
set_option maxRecDepth 20000 in
theorem gX7_keepsFound_X7_isRow : GoodIn wsX7_keepsFound (va_wsS RX7 58 yX7_isRow wsX7_isRow) := goodIn_app (goodIn_of _ (by decide +kernel)) ggX7_keepsFound_X7_isRow
set_option maxRecDepth 20000 in
theorem ggX7_keepsFound_X7_isPlain : GoodIn wsX7_keepsFound wsX7_isPlain := goodIn_r _ [19, 2, 20, 21, 22, 7, 23, 39, 40, 41, 42, 43, 44, 45, 46, 47, 48, 49, 50, 51, 52, 53, 54, 55, 56, 57, 58, 59, 60, 61, 62] (by decide +kernel) (by decide +kernel)
set_option maxRecDepth 20000 in
theorem gX7_keepsFound_X7_isPlain : GoodIn wsX7_keepsFound (wsV RX7 219 RX7 yX7_isPlain wsX7_isPlain) := goodIn_app (goodIn_of _ (by decide +kernel)) ggX7_keepsFound_X7_isPlain
set_option maxRecDepth 20000 in
theorem ggX7_keepsFound_X7_lacks : GoodIn wsX7_keepsFound wsX7_lacks := goodIn_r _ [27, 28, 29, 30, 31, 7, 32, 33, 34, 9, 10, 11, 39, 40, 41, 42, 43, 44, 45, 46, 47, 48, 49, 50, 51, 52, 53, 54, 55, 56, 57, 58, 59, 60, 61, 62] (by decide +kernel) (by decide +kernel)
set_option maxRecDepth 20000 in
theorem gX7_keepsFound_X7_lacks : GoodIn wsX7_keepsFound (wsV RX7 213 RX7 yX7_lacks wsX7_lacks) := goodIn_app (goodIn_of _ (by decide +kernel)) ggX7_keepsFound_X7_lacks
set_option maxRecDepth 20000 in
theorem ggX7_keepsFound_X7_well : GoodIn wsX7_keepsFound wsX7_well := goodIn_r _ [38, 33, 39, 40, 41, 42, 43, 44, 45, 46, 47, 48, 49, 50, 51, 52, 53, 54, 55, 56, 57, 58, 59, 60, 61, 62] (by decide +kernel) (by decide +kernel)
set_option maxRecDepth 20000 in
theorem gX7_keepsFound_X7_well : GoodIn wsX7_keepsFound (wsV RX7 69 RX7 yX7_well wsX7_well) := goodIn_app (goodIn_of _ (by decide +kernel)) ggX7_keepsFound_X7_well
theorem dX7_keepsFound_0 : decode cX7_keepsFound 0 = .ok (.aload_n 0, 1) := by decide +kernel
theorem dX7_keepsFound_1 : decode cX7_keepsFound 1 = .ok (.iload_n 1, 1) := by decide +kernel
theorem dX7_keepsFound_2 : decode cX7_keepsFound 2 = .ok (.invokevirtual 181, 3) := by decide +kernel
theorem dX7_keepsFound_5 : decode cX7_keepsFound 5 = .ok (.ifCond .eq 10, 3) := by decide +kernel
theorem dX7_keepsFound_8 : decode cX7_keepsFound 8 = .ok (.iload_n 2, 1) := by decide +kernel
theorem dX7_keepsFound_9 : decode cX7_keepsFound 9 = .ok (.invokestatic 58, 3) := by decide +kernel
theorem dX7_keepsFound_12 : decode cX7_keepsFound 12 = .ok (.ifCond .ne 6, 3) := by decide +kernel
theorem dX7_keepsFound_15 : decode cX7_keepsFound 15 = .ok (.ldc 64, 2) := by decide +kernel
theorem dX7_keepsFound_17 : decode cX7_keepsFound 17 = .ok (.ireturn, 1) := by decide +kernel
theorem dX7_keepsFound_18 : decode cX7_keepsFound 18 = .ok (.iconst 0, 1) := by decide +kernel
theorem dX7_keepsFound_19 : decode cX7_keepsFound 19 = .ok (.istore 4, 2) := by decide +kernel
theorem dX7_keepsFound_21 : decode cX7_keepsFound 21 = .ok (.iconst 0, 1) := by decide +kernel
theorem dX7_keepsFound_22 : decode cX7_keepsFound 22 = .ok (.istore 5, 2) := by decide +kernel
theorem dX7_keepsFound_24 : decode cX7_keepsFound 24 = .ok (.iload 5, 2) := by decide +kernel
theorem dX7_keepsFound_26 : decode cX7_keepsFound 26 = .ok (.aload_n 0, 1) := by decide +kernel
theorem dX7_keepsFound_27 : decode cX7_keepsFound 27 = .ok (.getfield 19, 3) := by decide +kernel
theorem dX7_keepsFound_30 : decode cX7_keepsFound 30 = .ok (.iconst 3, 1) := by decide +kernel
theorem dX7_keepsFound_31 : decode cX7_keepsFound 31 = .ok (.iaload, 1) := by decide +kernel
theorem dX7_keepsFound_32 : decode cX7_keepsFound 32 = .ok (.if_icmp .ge 29, 3) := by decide +kernel
theorem dX7_keepsFound_35 : decode cX7_keepsFound 35 = .ok (.iload 4, 2) := by decide +kernel
theorem dX7_keepsFound_37 : decode cX7_keepsFound 37 = .ok (.aload_n 0, 1) := by decide +kernel
theorem dX7_keepsFound_38 : decode cX7_keepsFound 38 = .ok (.iload 5, 2) := by decide +kernel
theorem dX7_keepsFound_40 : decode cX7_keepsFound 40 = .ok (.iload_n 1, 1) := by decide +kernel
theorem dX7_keepsFound_41 : decode cX7_keepsFound 41 = .ok (.invokevirtual 219, 3) := by decide +kernel
theorem dX7_keepsFound_44 : decode cX7_keepsFound 44 = .ok (.ifCond .eq 7, 3) := by decide +kernel
theorem dX7_keepsFound_47 : decode cX7_keepsFound 47 = .ok (.iconst 1, 1) := by decide +kernel
theorem dX7_keepsFound_48 : decode cX7_keepsFound 48 = .ok (.goto 4, 3) := by decide +kernel
theorem dX7_keepsFound_51 : decode cX7_keepsFound 51 = .ok (.iconst 0, 1) := by decide +kernel
theorem dX7_keepsFound_52 : decode cX7_keepsFound 52 = .ok (.iadd, 1) := by decide +kernel
theorem dX7_keepsFound_53 : decode cX7_keepsFound 53 = .ok (.istore 4, 2) := by decide +kernel
theorem dX7_keepsFound_55 : decode cX7_keepsFound 55 = .ok (.iinc 5 1, 3) := by decide +kernel
theorem dX7_keepsFound_58 : decode cX7_keepsFound 58 = .ok (.goto (-34), 3) := by decide +kernel
theorem dX7_keepsFound_61 : decode cX7_keepsFound 61 = .ok (.aload_n 0, 1) := by decide +kernel
theorem dX7_keepsFound_62 : decode cX7_keepsFound 62 = .ok (.iload_n 2, 1) := by decide +kernel
theorem dX7_keepsFound_63 : decode cX7_keepsFound 63 = .ok (.iload_n 3, 1) := by decide +kernel
theorem dX7_keepsFound_64 : decode cX7_keepsFound 64 = .ok (.iload 4, 2) := by decide +kernel
theorem dX7_keepsFound_66 : decode cX7_keepsFound 66 = .ok (.invokevirtual 213, 3) := by decide +kernel
theorem dX7_keepsFound_69 : decode cX7_keepsFound 69 = .ok (.istore 5, 2) := by decide +kernel
theorem dX7_keepsFound_71 : decode cX7_keepsFound 71 = .ok (.iload 5, 2) := by decide +kernel
theorem dX7_keepsFound_73 : decode cX7_keepsFound 73 = .ok (.ifCond .ge 6, 3) := by decide +kernel
theorem dX7_keepsFound_76 : decode cX7_keepsFound 76 = .ok (.iload 5, 2) := by decide +kernel
theorem dX7_keepsFound_78 : decode cX7_keepsFound 78 = .ok (.ireturn, 1) := by decide +kernel
theorem dX7_keepsFound_79 : decode cX7_keepsFound 79 = .ok (.iconst 0, 1) := by decide +kernel
theorem dX7_keepsFound_80 : decode cX7_keepsFound 80 = .ok (.istore 6, 2) := by decide +kernel
theorem dX7_keepsFound_82 : decode cX7_keepsFound 82 = .ok (.iconst 0, 1) := by decide +kernel
theorem dX7_keepsFound_83 : decode cX7_keepsFound 83 = .ok (.istore 7, 2) := by decide +kernel
theorem dX7_keepsFound_85 : decode cX7_keepsFound 85 = .ok (.iload 7, 2) := by decide +kernel
theorem dX7_keepsFound_87 : decode cX7_keepsFound 87 = .ok (.bipush 10, 2) := by decide +kernel
theorem dX7_keepsFound_89 : decode cX7_keepsFound 89 = .ok (.if_icmp .gt 109, 3) := by decide +kernel
theorem dX7_keepsFound_92 : decode cX7_keepsFound 92 = .ok (.iconst 1, 1) := by decide +kernel
theorem dX7_keepsFound_93 : decode cX7_keepsFound 93 = .ok (.istore 8, 2) := by decide +kernel
theorem dX7_keepsFound_95 : decode cX7_keepsFound 95 = .ok (.bipush 40, 2) := by decide +kernel
theorem dX7_keepsFound_97 : decode cX7_keepsFound 97 = .ok (.iload_n 2, 1) := by decide +kernel
theorem dX7_keepsFound_98 : decode cX7_keepsFound 98 = .ok (.imul, 1) := by decide +kernel
theorem dX7_keepsFound_99 : decode cX7_keepsFound 99 = .ok (.iload_n 3, 1) := by decide +kernel
theorem dX7_keepsFound_100 : decode cX7_keepsFound 100 = .ok (.iadd, 1) := by decide +kernel
theorem dX7_keepsFound_101 : decode cX7_keepsFound 101 = .ok (.istore 9, 2) := by decide +kernel
theorem dX7_keepsFound_103 : decode cX7_keepsFound 103 = .ok (.iconst 0, 1) := by decide +kernel
theorem dX7_keepsFound_104 : decode cX7_keepsFound 104 = .ok (.istore 10, 2) := by decide +kernel
theorem dX7_keepsFound_106 : decode cX7_keepsFound 106 = .ok (.iload 10, 2) := by decide +kernel
theorem dX7_keepsFound_108 : decode cX7_keepsFound 108 = .ok (.aload_n 0, 1) := by decide +kernel
theorem dX7_keepsFound_109 : decode cX7_keepsFound 109 = .ok (.getfield 19, 3) := by decide +kernel
theorem dX7_keepsFound_112 : decode cX7_keepsFound 112 = .ok (.iconst 3, 1) := by decide +kernel
theorem dX7_keepsFound_113 : decode cX7_keepsFound 113 = .ok (.iaload, 1) := by decide +kernel
theorem dX7_keepsFound_114 : decode cX7_keepsFound 114 = .ok (.if_icmp .ge 60, 3) := by decide +kernel
theorem dX7_keepsFound_117 : decode cX7_keepsFound 117 = .ok (.aload_n 0, 1) := by decide +kernel
theorem dX7_keepsFound_118 : decode cX7_keepsFound 118 = .ok (.iload 10, 2) := by decide +kernel
theorem dX7_keepsFound_120 : decode cX7_keepsFound 120 = .ok (.iload_n 1, 1) := by decide +kernel
theorem dX7_keepsFound_121 : decode cX7_keepsFound 121 = .ok (.invokevirtual 219, 3) := by decide +kernel
theorem dX7_keepsFound_124 : decode cX7_keepsFound 124 = .ok (.ifCond .eq 44, 3) := by decide +kernel
theorem dX7_keepsFound_127 : decode cX7_keepsFound 127 = .ok (.iload 8, 2) := by decide +kernel
theorem dX7_keepsFound_129 : decode cX7_keepsFound 129 = .ok (.ifCond .eq 33, 3) := by decide +kernel
theorem dX7_keepsFound_132 : decode cX7_keepsFound 132 = .ok (.aload_n 0, 1) := by decide +kernel
theorem dX7_keepsFound_133 : decode cX7_keepsFound 133 = .ok (.getfield 19, 3) := by decide +kernel
theorem dX7_keepsFound_136 : decode cX7_keepsFound 136 = .ok (.bipush 41, 2) := by decide +kernel
theorem dX7_keepsFound_138 : decode cX7_keepsFound 138 = .ok (.iload 10, 2) := by decide +kernel
theorem dX7_keepsFound_140 : decode cX7_keepsFound 140 = .ok (.iadd, 1) := by decide +kernel
theorem dX7_keepsFound_141 : decode cX7_keepsFound 141 = .ok (.iaload, 1) := by decide +kernel
theorem dX7_keepsFound_142 : decode cX7_keepsFound 142 = .ok (.iload 7, 2) := by decide +kernel
theorem dX7_keepsFound_144 : decode cX7_keepsFound 144 = .ok (.imul, 1) := by decide +kernel
theorem dX7_keepsFound_145 : decode cX7_keepsFound 145 = .ok (.bipush 10, 2) := by decide +kernel
theorem dX7_keepsFound_147 : decode cX7_keepsFound 147 = .ok (.idiv, 1) := by decide +kernel
theorem dX7_keepsFound_148 : decode cX7_keepsFound 148 = .ok (.aload_n 0, 1) := by decide +kernel
theorem dX7_keepsFound_149 : decode cX7_keepsFound 149 = .ok (.getfield 16, 3) := by decide +kernel
theorem dX7_keepsFound_152 : decode cX7_keepsFound 152 = .ok (.iload 9, 2) := by decide +kernel
theorem dX7_keepsFound_154 : decode cX7_keepsFound 154 = .ok (.iaload, 1) := by decide +kernel
theorem dX7_keepsFound_155 : decode cX7_keepsFound 155 = .ok (.if_icmp .ne 7, 3) := by decide +kernel
theorem dX7_keepsFound_158 : decode cX7_keepsFound 158 = .ok (.iconst 1, 1) := by decide +kernel
theorem dX7_keepsFound_159 : decode cX7_keepsFound 159 = .ok (.goto 4, 3) := by decide +kernel
theorem dX7_keepsFound_162 : decode cX7_keepsFound 162 = .ok (.iconst 0, 1) := by decide +kernel
theorem dX7_keepsFound_163 : decode cX7_keepsFound 163 = .ok (.istore 8, 2) := by decide +kernel
theorem dX7_keepsFound_165 : decode cX7_keepsFound 165 = .ok (.iinc 9 1, 3) := by decide +kernel
theorem dX7_keepsFound_168 : decode cX7_keepsFound 168 = .ok (.iinc 10 1, 3) := by decide +kernel
theorem dX7_keepsFound_171 : decode cX7_keepsFound 171 = .ok (.goto (-65), 3) := by decide +kernel
theorem dX7_keepsFound_174 : decode cX7_keepsFound 174 = .ok (.iload 6, 2) := by decide +kernel
theorem dX7_keepsFound_176 : decode cX7_keepsFound 176 = .ok (.iload 8, 2) := by decide +kernel
theorem dX7_keepsFound_178 : decode cX7_keepsFound 178 = .ok (.ifCond .eq 10, 3) := by decide +kernel
theorem dX7_keepsFound_181 : decode cX7_keepsFound 181 = .ok (.iconst 1, 1) := by decide +kernel
theorem dX7_keepsFound_182 : decode cX7_keepsFound 182 = .ok (.iload 7, 2) := by decide +kernel
theorem dX7_keepsFound_184 : decode cX7_keepsFound 184 = .ok (.ishl, 1) := by decide +kernel
theorem dX7_keepsFound_185 : decode cX7_keepsFound 185 = .ok (.goto 4, 3) := by decide +kernel
theorem dX7_keepsFound_188 : decode cX7_keepsFound 188 = .ok (.iconst 0, 1) := by decide +kernel
theorem dX7_keepsFound_189 : decode cX7_keepsFound 189 = .ok (.ior, 1) := by decide +kernel
theorem dX7_keepsFound_190 : decode cX7_keepsFound 190 = .ok (.istore 6, 2) := by decide +kernel
theorem dX7_keepsFound_192 : decode cX7_keepsFound 192 = .ok (.iinc 7 1, 3) := by decide +kernel
theorem dX7_keepsFound_195 : decode cX7_keepsFound 195 = .ok (.goto (-110), 3) := by decide +kernel
theorem dX7_keepsFound_198 : decode cX7_keepsFound 198 = .ok (.aload_n 0, 1) := by decide +kernel
theorem dX7_keepsFound_199 : decode cX7_keepsFound 199 = .ok (.iload 6, 2) := by decide +kernel
theorem dX7_keepsFound_201 : decode cX7_keepsFound 201 = .ok (.invokevirtual 69, 3) := by decide +kernel
theorem dX7_keepsFound_204 : decode cX7_keepsFound 204 = .ok (.ireturn, 1) := by decide +kernel
set_option maxRecDepth 20000 in
theorem ggX7_isPlain_X7_isOpen : GoodIn wsX7_isPlain wsX7_isOpen := goodIn_r _ [6, 1, 7, 8, 9, 10, 11, 12, 13, 14, 15, 16, 17, 18, 19, 20, 21, 22, 23, 24, 25, 26, 27, 28, 29, 30] (by decide +kernel) (by decide +kernel)
set_option maxRecDepth 20000 in
theorem gX7_isPlain_X7_isOpen : GoodIn wsX7_isPlain (wsV RX7 145 RX7 yX7_isOpen wsX7_isOpen) := goodIn_app (goodIn_of _ (by decide +kernel)) ggX7_isPlain_X7_isOpen
theorem dX7_isPlain_0 : decode cX7_isPlain 0 = .ok (.aload_n 0, 1) := by decide +kernel
theorem dX7_isPlain_1 : decode cX7_isPlain 1 = .ok (.iload_n 1, 1) := by decide +kernel
theorem dX7_isPlain_2 : decode cX7_isPlain 2 = .ok (.invokevirtual 145, 3) := by decide +kernel
theorem dX7_isPlain_5 : decode cX7_isPlain 5 = .ok (.ifCond .eq 33, 3) := by decide +kernel
theorem dX7_isPlain_8 : decode cX7_isPlain 8 = .ok (.aload_n 0, 1) := by decide +kernel
theorem dX7_isPlain_9 : decode cX7_isPlain 9 = .ok (.getfield 19, 3) := by decide +kernel
theorem dX7_isPlain_12 : decode cX7_isPlain 12 = .ok (.bipush 9, 2) := by decide +kernel
theorem dX7_isPlain_14 : decode cX7_isPlain 14 = .ok (.iload_n 1, 1) := by decide +kernel
theorem dX7_isPlain_15 : decode cX7_isPlain 15 = .ok (.iadd, 1) := by decide +kernel
theorem dX7_isPlain_16 : decode cX7_isPlain 16 = .ok (.iaload, 1) := by decide +kernel
theorem dX7_isPlain_17 : decode cX7_isPlain 17 = .ok (.iconst 1, 1) := by decide +kernel
theorem dX7_isPlain_18 : decode cX7_isPlain 18 = .ok (.if_icmp .ne 20, 3) := by decide +kernel
theorem dX7_isPlain_21 : decode cX7_isPlain 21 = .ok (.aload_n 0, 1) := by decide +kernel
theorem dX7_isPlain_22 : decode cX7_isPlain 22 = .ok (.getfield 19, 3) := by decide +kernel
theorem dX7_isPlain_25 : decode cX7_isPlain 25 = .ok (.bipush 17, 2) := by decide +kernel
theorem dX7_isPlain_27 : decode cX7_isPlain 27 = .ok (.iload_n 1, 1) := by decide +kernel
theorem dX7_isPlain_28 : decode cX7_isPlain 28 = .ok (.iadd, 1) := by decide +kernel
theorem dX7_isPlain_29 : decode cX7_isPlain 29 = .ok (.iaload, 1) := by decide +kernel
theorem dX7_isPlain_30 : decode cX7_isPlain 30 = .ok (.iload_n 2, 1) := by decide +kernel
theorem dX7_isPlain_31 : decode cX7_isPlain 31 = .ok (.if_icmp .ne 7, 3) := by decide +kernel
theorem dX7_isPlain_34 : decode cX7_isPlain 34 = .ok (.iconst 1, 1) := by decide +kernel
theorem dX7_isPlain_35 : decode cX7_isPlain 35 = .ok (.goto 4, 3) := by decide +kernel
theorem dX7_isPlain_38 : decode cX7_isPlain 38 = .ok (.iconst 0, 1) := by decide +kernel
theorem dX7_isPlain_39 : decode cX7_isPlain 39 = .ok (.ireturn, 1) := by decide +kernel
set_option maxRecDepth 20000 in
theorem ggX7_free_X7_in : GoodIn wsX7_free wsX7_in := goodIn_r _ [7] (by decide +kernel) (by decide +kernel)
set_option maxRecDepth 20000 in
theorem gX7_free_X7_in : GoodIn wsX7_free (va_wsS RX7 54 yX7_in wsX7_in) := goodIn_app (goodIn_of _ (by decide +kernel)) ggX7_free_X7_in
theorem dX7_free_0 : decode cX7_free 0 = .ok (.iload_n 1, 1) := by decide +kernel
theorem dX7_free_1 : decode cX7_free 1 = .ok (.i2l, 1) := by decide +kernel
theorem dX7_free_2 : decode cX7_free 2 = .ok (.lconst 0, 1) := by decide +kernel
theorem dX7_free_3 : decode cX7_free 3 = .ok (.ldc2_w 222, 3) := by decide +kernel
theorem dX7_free_6 : decode cX7_free 6 = .ok (.invokestatic 54, 3) := by decide +kernel
theorem dX7_free_9 : decode cX7_free 9 = .ok (.ifCond .eq 25, 3) := by decide +kernel
theorem dX7_free_12 : decode cX7_free 12 = .ok (.iload_n 2, 1) := by decide +kernel
theorem dX7_free_13 : decode cX7_free 13 = .ok (.i2l, 1) := by decide +kernel
theorem dX7_free_14 : decode cX7_free 14 = .ok (.lconst 0, 1) := by decide +kernel
theorem dX7_free_15 : decode cX7_free 15 = .ok (.ldc2_w 199, 3) := by decide +kernel
theorem dX7_free_18 : decode cX7_free 18 = .ok (.invokestatic 54, 3) := by decide +kernel
theorem dX7_free_21 : decode cX7_free 21 = .ok (.ifCond .eq 13, 3) := by decide +kernel
theorem dX7_free_24 : decode cX7_free 24 = .ok (.iload_n 3, 1) := by decide +kernel
theorem dX7_free_25 : decode cX7_free 25 = .ok (.i2l, 1) := by decide +kernel
theorem dX7_free_26 : decode cX7_free 26 = .ok (.lconst 0, 1) := by decide +kernel
theorem dX7_free_27 : decode cX7_free 27 = .ok (.lconst 1, 1) := by decide +kernel
theorem dX7_free_28 : decode cX7_free 28 = .ok (.invokestatic 54, 3) := by decide +kernel
theorem dX7_free_31 : decode cX7_free 31 = .ok (.ifCond .ne 6, 3) := by decide +kernel
theorem dX7_free_34 : decode cX7_free 34 = .ok (.ldc 64, 2) := by decide +kernel
theorem dX7_free_36 : decode cX7_free 36 = .ok (.ireturn, 1) := by decide +kernel
theorem dX7_free_37 : decode cX7_free 37 = .ok (.iconst 1, 1) := by decide +kernel
theorem dX7_free_38 : decode cX7_free 38 = .ok (.istore 4, 2) := by decide +kernel
theorem dX7_free_40 : decode cX7_free 40 = .ok (.iconst 1, 1) := by decide +kernel
theorem dX7_free_41 : decode cX7_free 41 = .ok (.istore 5, 2) := by decide +kernel
theorem dX7_free_43 : decode cX7_free 43 = .ok (.iconst 0, 1) := by decide +kernel
theorem dX7_free_44 : decode cX7_free 44 = .ok (.istore 6, 2) := by decide +kernel
theorem dX7_free_46 : decode cX7_free 46 = .ok (.iload 6, 2) := by decide +kernel
theorem dX7_free_48 : decode cX7_free 48 = .ok (.iload_n 2, 1) := by decide +kernel
theorem dX7_free_49 : decode cX7_free 49 = .ok (.if_icmp .ge 22, 3) := by decide +kernel
theorem dX7_free_52 : decode cX7_free 52 = .ok (.iload 4, 2) := by decide +kernel
theorem dX7_free_54 : decode cX7_free 54 = .ok (.bipush 10, 2) := by decide +kernel
theorem dX7_free_56 : decode cX7_free 56 = .ok (.imul, 1) := by decide +kernel
theorem dX7_free_57 : decode cX7_free 57 = .ok (.istore 4, 2) := by decide +kernel
theorem dX7_free_59 : decode cX7_free 59 = .ok (.iload 5, 2) := by decide +kernel
theorem dX7_free_61 : decode cX7_free 61 = .ok (.iload_n 1, 1) := by decide +kernel
theorem dX7_free_62 : decode cX7_free 62 = .ok (.imul, 1) := by decide +kernel
theorem dX7_free_63 : decode cX7_free 63 = .ok (.istore 5, 2) := by decide +kernel
theorem dX7_free_65 : decode cX7_free 65 = .ok (.iinc 6 1, 3) := by decide +kernel
theorem dX7_free_68 : decode cX7_free 68 = .ok (.goto (-22), 3) := by decide +kernel
theorem dX7_free_71 : decode cX7_free 71 = .ok (.iload 4, 2) := by decide +kernel
theorem dX7_free_73 : decode cX7_free 73 = .ok (.iload 5, 2) := by decide +kernel
theorem dX7_free_75 : decode cX7_free 75 = .ok (.isub, 1) := by decide +kernel
theorem dX7_free_76 : decode cX7_free 76 = .ok (.istore 6, 2) := by decide +kernel
theorem dX7_free_78 : decode cX7_free 78 = .ok (.iload 4, 2) := by decide +kernel
theorem dX7_free_80 : decode cX7_free 80 = .ok (.istore 7, 2) := by decide +kernel
theorem dX7_free_82 : decode cX7_free 82 = .ok (.iload 7, 2) := by decide +kernel
theorem dX7_free_84 : decode cX7_free 84 = .ok (.ifCond .eq 21, 3) := by decide +kernel
theorem dX7_free_87 : decode cX7_free 87 = .ok (.iload 6, 2) := by decide +kernel
theorem dX7_free_89 : decode cX7_free 89 = .ok (.iload 7, 2) := by decide +kernel
theorem dX7_free_91 : decode cX7_free 91 = .ok (.irem, 1) := by decide +kernel
theorem dX7_free_92 : decode cX7_free 92 = .ok (.istore 8, 2) := by decide +kernel
theorem dX7_free_94 : decode cX7_free 94 = .ok (.iload 7, 2) := by decide +kernel
theorem dX7_free_96 : decode cX7_free 96 = .ok (.istore 6, 2) := by decide +kernel
theorem dX7_free_98 : decode cX7_free 98 = .ok (.iload 8, 2) := by decide +kernel
theorem dX7_free_100 : decode cX7_free 100 = .ok (.istore 7, 2) := by decide +kernel
theorem dX7_free_102 : decode cX7_free 102 = .ok (.goto (-20), 3) := by decide +kernel
theorem dX7_free_105 : decode cX7_free 105 = .ok (.iload_n 3, 1) := by decide +kernel
theorem dX7_free_106 : decode cX7_free 106 = .ok (.ifCond .ne 14, 3) := by decide +kernel
theorem dX7_free_109 : decode cX7_free 109 = .ok (.iload 4, 2) := by decide +kernel
theorem dX7_free_111 : decode cX7_free 111 = .ok (.iload 5, 2) := by decide +kernel
theorem dX7_free_113 : decode cX7_free 113 = .ok (.isub, 1) := by decide +kernel
theorem dX7_free_114 : decode cX7_free 114 = .ok (.iload 6, 2) := by decide +kernel
theorem dX7_free_116 : decode cX7_free 116 = .ok (.idiv, 1) := by decide +kernel
theorem dX7_free_117 : decode cX7_free 117 = .ok (.goto 8, 3) := by decide +kernel
theorem dX7_free_120 : decode cX7_free 120 = .ok (.iload 4, 2) := by decide +kernel
theorem dX7_free_122 : decode cX7_free 122 = .ok (.iload 6, 2) := by decide +kernel
theorem dX7_free_124 : decode cX7_free 124 = .ok (.idiv, 1) := by decide +kernel
theorem dX7_free_125 : decode cX7_free 125 = .ok (.ireturn, 1) := by decide +kernel
set_option maxRecDepth 20000 in
theorem ggX7_image_X7_in : GoodIn wsX7_image wsX7_in := goodIn_r _ [10] (by decide +kernel) (by decide +kernel)
set_option maxRecDepth 20000 in
theorem gX7_image_X7_in : GoodIn wsX7_image (va_wsS RX7 54 yX7_in wsX7_in) := goodIn_app (goodIn_of _ (by decide +kernel)) ggX7_image_X7_in
theorem dX7_image_0 : decode cX7_image 0 = .ok (.iload_n 1, 1) := by decide +kernel
theorem dX7_image_1 : decode cX7_image 1 = .ok (.i2l, 1) := by decide +kernel
theorem dX7_image_2 : decode cX7_image 2 = .ok (.lconst 0, 1) := by decide +kernel
theorem dX7_image_3 : decode cX7_image 3 = .ok (.lconst 1, 1) := by decide +kernel
theorem dX7_image_4 : decode cX7_image 4 = .ok (.invokestatic 54, 3) := by decide +kernel
theorem dX7_image_7 : decode cX7_image 7 = .ok (.ifCond .ne 6, 3) := by decide +kernel
theorem dX7_image_10 : decode cX7_image 10 = .ok (.ldc 64, 2) := by decide +kernel
theorem dX7_image_12 : decode cX7_image 12 = .ok (.ireturn, 1) := by decide +kernel
theorem dX7_image_13 : decode cX7_image 13 = .ok (.aload_n 0, 1) := by decide +kernel
theorem dX7_image_14 : decode cX7_image 14 = .ok (.getfield 135, 3) := by decide +kernel
theorem dX7_image_17 : decode cX7_image 17 = .ok (.ifCond .ne 6, 3) := by decide +kernel
theorem dX7_image_20 : decode cX7_image 20 = .ok (.ldc 168, 2) := by decide +kernel
theorem dX7_image_22 : decode cX7_image 22 = .ok (.ireturn, 1) := by decide +kernel
theorem dX7_image_23 : decode cX7_image 23 = .ok (.iconst 0, 1) := by decide +kernel
theorem dX7_image_24 : decode cX7_image 24 = .ok (.istore_n 2, 1) := by decide +kernel
theorem dX7_image_25 : decode cX7_image 25 = .ok (.iload_n 2, 1) := by decide +kernel
theorem dX7_image_26 : decode cX7_image 26 = .ok (.bipush 57, 2) := by decide +kernel
theorem dX7_image_28 : decode cX7_image 28 = .ok (.if_icmp .ge 26, 3) := by decide +kernel
theorem dX7_image_31 : decode cX7_image 31 = .ok (.aload_n 0, 1) := by decide +kernel
theorem dX7_image_32 : decode cX7_image 32 = .ok (.getfield 41, 3) := by decide +kernel
theorem dX7_image_35 : decode cX7_image 35 = .ok (.bipush 57, 2) := by decide +kernel
theorem dX7_image_37 : decode cX7_image 37 = .ok (.iload_n 1, 1) := by decide +kernel
theorem dX7_image_38 : decode cX7_image 38 = .ok (.imul, 1) := by decide +kernel
theorem dX7_image_39 : decode cX7_image 39 = .ok (.iload_n 2, 1) := by decide +kernel
theorem dX7_image_40 : decode cX7_image 40 = .ok (.iadd, 1) := by decide +kernel
theorem dX7_image_41 : decode cX7_image 41 = .ok (.aload_n 0, 1) := by decide +kernel
theorem dX7_image_42 : decode cX7_image 42 = .ok (.getfield 19, 3) := by decide +kernel
theorem dX7_image_45 : decode cX7_image 45 = .ok (.iload_n 2, 1) := by decide +kernel
theorem dX7_image_46 : decode cX7_image 46 = .ok (.iaload, 1) := by decide +kernel
theorem dX7_image_47 : decode cX7_image 47 = .ok (.iastore, 1) := by decide +kernel
theorem dX7_image_48 : decode cX7_image 48 = .ok (.iinc 2 1, 3) := by decide +kernel
theorem dX7_image_51 : decode cX7_image 51 = .ok (.goto (-26), 3) := by decide +kernel
theorem dX7_image_54 : decode cX7_image 54 = .ok (.aload_n 0, 1) := by decide +kernel
theorem dX7_image_55 : decode cX7_image 55 = .ok (.getfield 37, 3) := by decide +kernel
theorem dX7_image_58 : decode cX7_image 58 = .ok (.iload_n 1, 1) := by decide +kernel
theorem dX7_image_59 : decode cX7_image 59 = .ok (.iconst 1, 1) := by decide +kernel
theorem dX7_image_60 : decode cX7_image 60 = .ok (.bastore, 1) := by decide +kernel
theorem dX7_image_61 : decode cX7_image 61 = .ok (.iconst 1, 1) := by decide +kernel
theorem dX7_image_62 : decode cX7_image 62 = .ok (.ireturn, 1) := by decide +kernel
set_option maxRecDepth 20000 in
theorem ggX7_restore_X7_in : GoodIn wsX7_restore wsX7_in := goodIn_r _ [10] (by decide +kernel) (by decide +kernel)
set_option maxRecDepth 20000 in
theorem gX7_restore_X7_in : GoodIn wsX7_restore (va_wsS RX7 54 yX7_in wsX7_in) := goodIn_app (goodIn_of _ (by decide +kernel)) ggX7_restore_X7_in
theorem dX7_restore_0 : decode cX7_restore 0 = .ok (.iload_n 1, 1) := by decide +kernel
theorem dX7_restore_1 : decode cX7_restore 1 = .ok (.i2l, 1) := by decide +kernel
theorem dX7_restore_2 : decode cX7_restore 2 = .ok (.lconst 0, 1) := by decide +kernel
theorem dX7_restore_3 : decode cX7_restore 3 = .ok (.lconst 1, 1) := by decide +kernel
theorem dX7_restore_4 : decode cX7_restore 4 = .ok (.invokestatic 54, 3) := by decide +kernel
theorem dX7_restore_7 : decode cX7_restore 7 = .ok (.ifCond .ne 6, 3) := by decide +kernel
theorem dX7_restore_10 : decode cX7_restore 10 = .ok (.ldc 64, 2) := by decide +kernel
theorem dX7_restore_12 : decode cX7_restore 12 = .ok (.ireturn, 1) := by decide +kernel
theorem dX7_restore_13 : decode cX7_restore 13 = .ok (.aload_n 0, 1) := by decide +kernel
theorem dX7_restore_14 : decode cX7_restore 14 = .ok (.getfield 37, 3) := by decide +kernel
theorem dX7_restore_17 : decode cX7_restore 17 = .ok (.iload_n 1, 1) := by decide +kernel
theorem dX7_restore_18 : decode cX7_restore 18 = .ok (.baload, 1) := by decide +kernel
theorem dX7_restore_19 : decode cX7_restore 19 = .ok (.ifCond .ne 6, 3) := by decide +kernel
theorem dX7_restore_22 : decode cX7_restore 22 = .ok (.ldc 168, 2) := by decide +kernel
theorem dX7_restore_24 : decode cX7_restore 24 = .ok (.ireturn, 1) := by decide +kernel
theorem dX7_restore_25 : decode cX7_restore 25 = .ok (.iconst 0, 1) := by decide +kernel
theorem dX7_restore_26 : decode cX7_restore 26 = .ok (.istore_n 2, 1) := by decide +kernel
theorem dX7_restore_27 : decode cX7_restore 27 = .ok (.iload_n 2, 1) := by decide +kernel
theorem dX7_restore_28 : decode cX7_restore 28 = .ok (.bipush 57, 2) := by decide +kernel
theorem dX7_restore_30 : decode cX7_restore 30 = .ok (.if_icmp .ge 26, 3) := by decide +kernel
theorem dX7_restore_33 : decode cX7_restore 33 = .ok (.aload_n 0, 1) := by decide +kernel
theorem dX7_restore_34 : decode cX7_restore 34 = .ok (.getfield 19, 3) := by decide +kernel
theorem dX7_restore_37 : decode cX7_restore 37 = .ok (.iload_n 2, 1) := by decide +kernel
theorem dX7_restore_38 : decode cX7_restore 38 = .ok (.aload_n 0, 1) := by decide +kernel
theorem dX7_restore_39 : decode cX7_restore 39 = .ok (.getfield 41, 3) := by decide +kernel
theorem dX7_restore_42 : decode cX7_restore 42 = .ok (.bipush 57, 2) := by decide +kernel
theorem dX7_restore_44 : decode cX7_restore 44 = .ok (.iload_n 1, 1) := by decide +kernel
theorem dX7_restore_45 : decode cX7_restore 45 = .ok (.imul, 1) := by decide +kernel
theorem dX7_restore_46 : decode cX7_restore 46 = .ok (.iload_n 2, 1) := by decide +kernel
theorem dX7_restore_47 : decode cX7_restore 47 = .ok (.iadd, 1) := by decide +kernel
theorem dX7_restore_48 : decode cX7_restore 48 = .ok (.iaload, 1) := by decide +kernel
theorem dX7_restore_49 : decode cX7_restore 49 = .ok (.iastore, 1) := by decide +kernel
theorem dX7_restore_50 : decode cX7_restore 50 = .ok (.iinc 2 1, 3) := by decide +kernel
theorem dX7_restore_53 : decode cX7_restore 53 = .ok (.goto (-26), 3) := by decide +kernel
theorem dX7_restore_56 : decode cX7_restore 56 = .ok (.aload_n 0, 1) := by decide +kernel
theorem dX7_restore_57 : decode cX7_restore 57 = .ok (.iconst 0, 1) := by decide +kernel
theorem dX7_restore_58 : decode cX7_restore 58 = .ok (.putfield 139, 3) := by decide +kernel
theorem dX7_restore_61 : decode cX7_restore 61 = .ok (.iconst 1, 1) := by decide +kernel
theorem dX7_restore_62 : decode cX7_restore 62 = .ok (.ireturn, 1) := by decide +kernel
set_option maxRecDepth 20000 in
theorem ggX7_kind_X7_isPromise : GoodIn wsX7_kind wsX7_isPromise := goodIn_r _ [7, 1, 8, 9, 6, 10, 11, 12, 13, 14, 15, 16, 17, 18, 19, 20, 21, 22, 23, 24, 25, 26, 27, 28, 29, 30, 31, 32, 33, 34] (by decide +kernel) (by decide +kernel)
set_option maxRecDepth 20000 in
theorem gX7_kind_X7_isPromise : GoodIn wsX7_kind (wsV RX7 165 RX7 yX7_isPromise wsX7_isPromise) := goodIn_app (goodIn_of _ (by decide +kernel)) ggX7_kind_X7_isPromise
theorem dX7_kind_0 : decode cX7_kind 0 = .ok (.aload_n 0, 1) := by decide +kernel
theorem dX7_kind_1 : decode cX7_kind 1 = .ok (.iload_n 1, 1) := by decide +kernel
theorem dX7_kind_2 : decode cX7_kind 2 = .ok (.invokevirtual 165, 3) := by decide +kernel
theorem dX7_kind_5 : decode cX7_kind 5 = .ok (.ifCond .eq 15, 3) := by decide +kernel
theorem dX7_kind_8 : decode cX7_kind 8 = .ok (.aload_n 0, 1) := by decide +kernel
theorem dX7_kind_9 : decode cX7_kind 9 = .ok (.getfield 19, 3) := by decide +kernel
theorem dX7_kind_12 : decode cX7_kind 12 = .ok (.bipush 9, 2) := by decide +kernel
theorem dX7_kind_14 : decode cX7_kind 14 = .ok (.iload_n 1, 1) := by decide +kernel
theorem dX7_kind_15 : decode cX7_kind 15 = .ok (.iadd, 1) := by decide +kernel
theorem dX7_kind_16 : decode cX7_kind 16 = .ok (.iaload, 1) := by decide +kernel
theorem dX7_kind_17 : decode cX7_kind 17 = .ok (.goto 5, 3) := by decide +kernel
theorem dX7_kind_20 : decode cX7_kind 20 = .ok (.ldc 64, 2) := by decide +kernel
theorem dX7_kind_22 : decode cX7_kind 22 = .ok (.ireturn, 1) := by decide +kernel
theorem dX7_isKind_0 : decode cX7_isKind 0 = .ok (.iload_n 1, 1) := by decide +kernel
theorem dX7_isKind_1 : decode cX7_isKind 1 = .ok (.ifCond .eq 28, 3) := by decide +kernel
theorem dX7_isKind_4 : decode cX7_isKind 4 = .ok (.iload_n 0, 1) := by decide +kernel
theorem dX7_isKind_5 : decode cX7_isKind 5 = .ok (.iload_n 1, 1) := by decide +kernel
theorem dX7_isKind_6 : decode cX7_isKind 6 = .ok (.if_icmp .eq 23, 3) := by decide +kernel
theorem dX7_isKind_9 : decode cX7_isKind 9 = .ok (.iload_n 1, 1) := by decide +kernel
theorem dX7_isKind_10 : decode cX7_isKind 10 = .ok (.iconst 1, 1) := by decide +kernel
theorem dX7_isKind_11 : decode cX7_isKind 11 = .ok (.if_icmp .ne 8, 3) := by decide +kernel
theorem dX7_isKind_14 : decode cX7_isKind 14 = .ok (.iload_n 0, 1) := by decide +kernel
theorem dX7_isKind_15 : decode cX7_isKind 15 = .ok (.iconst 4, 1) := by decide +kernel
theorem dX7_isKind_16 : decode cX7_isKind 16 = .ok (.if_icmp .lt 13, 3) := by decide +kernel
theorem dX7_isKind_19 : decode cX7_isKind 19 = .ok (.iload_n 1, 1) := by decide +kernel
theorem dX7_isKind_20 : decode cX7_isKind 20 = .ok (.iconst 4, 1) := by decide +kernel
theorem dX7_isKind_21 : decode cX7_isKind 21 = .ok (.if_icmp .ne 12, 3) := by decide +kernel
theorem dX7_isKind_24 : decode cX7_isKind 24 = .ok (.iload_n 0, 1) := by decide +kernel
theorem dX7_isKind_25 : decode cX7_isKind 25 = .ok (.iconst 5, 1) := by decide +kernel
theorem dX7_isKind_26 : decode cX7_isKind 26 = .ok (.if_icmp .ne 7, 3) := by decide +kernel
theorem dX7_isKind_29 : decode cX7_isKind 29 = .ok (.iconst 1, 1) := by decide +kernel
theorem dX7_isKind_30 : decode cX7_isKind 30 = .ok (.goto 4, 3) := by decide +kernel
theorem dX7_isKind_33 : decode cX7_isKind 33 = .ok (.iconst 0, 1) := by decide +kernel
theorem dX7_isKind_34 : decode cX7_isKind 34 = .ok (.ireturn, 1) := by decide +kernel
set_option maxRecDepth 20000 in
theorem ggX7_as_X7_isPromise : GoodIn wsX7_as wsX7_isPromise := goodIn_r _ [8, 3, 9, 10, 7, 11, 25, 26, 27, 28, 29, 30, 31, 32, 33, 34, 35, 36, 37, 38, 39, 40, 41, 42, 43, 44, 45, 46, 47, 48] (by decide +kernel) (by decide +kernel)
set_option maxRecDepth 20000 in
theorem gX7_as_X7_isPromise : GoodIn wsX7_as (wsV RX7 165 RX7 yX7_isPromise wsX7_isPromise) := goodIn_app (goodIn_of _ (by decide +kernel)) ggX7_as_X7_isPromise
set_option maxRecDepth 20000 in
theorem ggX7_as_X7_in : GoodIn wsX7_as wsX7_in := goodIn_r _ [11] (by decide +kernel) (by decide +kernel)
set_option maxRecDepth 20000 in
theorem gX7_as_X7_in : GoodIn wsX7_as (va_wsS RX7 54 yX7_in wsX7_in) := goodIn_app (goodIn_of _ (by decide +kernel)) ggX7_as_X7_in
set_option maxRecDepth 20000 in
theorem ggX7_as_X7_isKind : GoodIn wsX7_as wsX7_isKind := goodIn_r _ [14] (by decide +kernel) (by decide +kernel)
set_option maxRecDepth 20000 in
theorem gX7_as_X7_isKind : GoodIn wsX7_as (va_wsS RX7 224 yX7_isKind wsX7_isKind) := goodIn_app (goodIn_of _ (by decide +kernel)) ggX7_as_X7_isKind
set_option maxRecDepth 20000 in
theorem ggX7_as_X7_well : GoodIn wsX7_as wsX7_well := goodIn_r _ [18, 19, 25, 26, 27, 28, 29, 30, 31, 32, 33, 34, 35, 36, 37, 38, 39, 40, 41, 42, 43, 44, 45, 46, 47, 48] (by decide +kernel) (by decide +kernel)
set_option maxRecDepth 20000 in
theorem gX7_as_X7_well : GoodIn wsX7_as (wsV RX7 69 RX7 yX7_well wsX7_well) := goodIn_app (goodIn_of _ (by decide +kernel)) ggX7_as_X7_well
set_option maxRecDepth 20000 in
theorem ggX7_as_X7_find : GoodIn wsX7_as wsX7_find := goodIn_r _ [23, 19, 24, 25, 26, 27, 28, 29, 30, 31, 32, 33, 34, 35, 36, 37, 38, 39, 40, 41, 42, 43, 44, 45, 46, 47, 48] (by decide +kernel) (by decide +kernel)
set_option maxRecDepth 20000 in
theorem gX7_as_X7_find : GoodIn wsX7_as (wsV RX7 65 RX7 yX7_find wsX7_find) := goodIn_app (goodIn_of _ (by decide +kernel)) ggX7_as_X7_find
theorem dX7_as_0 : decode cX7_as 0 = .ok (.aload_n 0, 1) := by decide +kernel
theorem dX7_as_1 : decode cX7_as 1 = .ok (.iload_n 1, 1) := by decide +kernel
theorem dX7_as_2 : decode cX7_as 2 = .ok (.invokevirtual 165, 3) := by decide +kernel
theorem dX7_as_5 : decode cX7_as 5 = .ok (.ifCond .eq 15, 3) := by decide +kernel
theorem dX7_as_8 : decode cX7_as 8 = .ok (.iload_n 2, 1) := by decide +kernel
theorem dX7_as_9 : decode cX7_as 9 = .ok (.i2l, 1) := by decide +kernel
theorem dX7_as_10 : decode cX7_as 10 = .ok (.lconst 0, 1) := by decide +kernel
theorem dX7_as_11 : decode cX7_as 11 = .ok (.ldc2_w 201, 3) := by decide +kernel
theorem dX7_as_14 : decode cX7_as 14 = .ok (.invokestatic 54, 3) := by decide +kernel
theorem dX7_as_17 : decode cX7_as 17 = .ok (.ifCond .ne 6, 3) := by decide +kernel
theorem dX7_as_20 : decode cX7_as 20 = .ok (.ldc 64, 2) := by decide +kernel
theorem dX7_as_22 : decode cX7_as 22 = .ok (.ireturn, 1) := by decide +kernel
theorem dX7_as_23 : decode cX7_as 23 = .ok (.aload_n 0, 1) := by decide +kernel
theorem dX7_as_24 : decode cX7_as 24 = .ok (.getfield 19, 3) := by decide +kernel
theorem dX7_as_27 : decode cX7_as 27 = .ok (.bipush 9, 2) := by decide +kernel
theorem dX7_as_29 : decode cX7_as 29 = .ok (.iload_n 1, 1) := by decide +kernel
theorem dX7_as_30 : decode cX7_as 30 = .ok (.iadd, 1) := by decide +kernel
theorem dX7_as_31 : decode cX7_as 31 = .ok (.iaload, 1) := by decide +kernel
theorem dX7_as_32 : decode cX7_as 32 = .ok (.iload_n 2, 1) := by decide +kernel
theorem dX7_as_33 : decode cX7_as 33 = .ok (.invokestatic 224, 3) := by decide +kernel
theorem dX7_as_36 : decode cX7_as 36 = .ok (.ifCond .eq 11, 3) := by decide +kernel
theorem dX7_as_39 : decode cX7_as 39 = .ok (.aload_n 0, 1) := by decide +kernel
theorem dX7_as_40 : decode cX7_as 40 = .ok (.iload_n 1, 1) := by decide +kernel
theorem dX7_as_41 : decode cX7_as 41 = .ok (.invokevirtual 69, 3) := by decide +kernel
theorem dX7_as_44 : decode cX7_as 44 = .ok (.goto 8, 3) := by decide +kernel
theorem dX7_as_47 : decode cX7_as 47 = .ok (.aload_n 0, 1) := by decide +kernel
theorem dX7_as_48 : decode cX7_as 48 = .ok (.iconst 3, 1) := by decide +kernel
theorem dX7_as_49 : decode cX7_as 49 = .ok (.invokevirtual 65, 3) := by decide +kernel
theorem dX7_as_52 : decode cX7_as 52 = .ok (.ireturn, 1) := by decide +kernel
theorem dX7_begin_0 : decode cX7_begin 0 = .ok (.aload_n 0, 1) := by decide +kernel
theorem dX7_begin_1 : decode cX7_begin 1 = .ok (.getfield 227, 3) := by decide +kernel
theorem dX7_begin_4 : decode cX7_begin 4 = .ok (.bipush 16, 2) := by decide +kernel
theorem dX7_begin_6 : decode cX7_begin 6 = .ok (.if_icmp .ge 23, 3) := by decide +kernel
theorem dX7_begin_9 : decode cX7_begin 9 = .ok (.aload_n 0, 1) := by decide +kernel
theorem dX7_begin_10 : decode cX7_begin 10 = .ok (.getfield 44, 3) := by decide +kernel
theorem dX7_begin_13 : decode cX7_begin 13 = .ok (.aload_n 0, 1) := by decide +kernel
theorem dX7_begin_14 : decode cX7_begin 14 = .ok (.getfield 227, 3) := by decide +kernel
theorem dX7_begin_17 : decode cX7_begin 17 = .ok (.iload_n 1, 1) := by decide +kernel
theorem dX7_begin_18 : decode cX7_begin 18 = .ok (.iastore, 1) := by decide +kernel
theorem dX7_begin_19 : decode cX7_begin 19 = .ok (.aload_n 0, 1) := by decide +kernel
theorem dX7_begin_20 : decode cX7_begin 20 = .ok (.dup, 1) := by decide +kernel
theorem dX7_begin_21 : decode cX7_begin 21 = .ok (.getfield 227, 3) := by decide +kernel
theorem dX7_begin_24 : decode cX7_begin 24 = .ok (.iconst 1, 1) := by decide +kernel
theorem dX7_begin_25 : decode cX7_begin 25 = .ok (.iadd, 1) := by decide +kernel
theorem dX7_begin_26 : decode cX7_begin 26 = .ok (.putfield 227, 3) := by decide +kernel
theorem dX7_begin_29 : decode cX7_begin 29 = .ok (.return_, 1) := by decide +kernel
set_option maxRecDepth 20000 in
theorem ggX7_lent_X7_begin : GoodIn wsX7_lent wsX7_begin := goodIn_r _ [6, 7, 8, 9, 10, 11, 12, 13, 14, 15, 16, 17, 18, 19, 20, 21, 22, 23, 24, 25, 26, 27, 28, 29, 30, 31, 32] (by decide +kernel) (by decide +kernel)
set_option maxRecDepth 20000 in
theorem gX7_lent_X7_begin : GoodIn wsX7_lent (wsV RX7 230 RX7 yX7_begin wsX7_begin) := goodIn_app (goodIn_of _ (by decide +kernel)) ggX7_lent_X7_begin
theorem dX7_lent_0 : decode cX7_lent 0 = .ok (.aload_n 0, 1) := by decide +kernel
theorem dX7_lent_1 : decode cX7_lent 1 = .ok (.iload_n 2, 1) := by decide +kernel
theorem dX7_lent_2 : decode cX7_lent 2 = .ok (.invokevirtual 230, 3) := by decide +kernel
theorem dX7_lent_5 : decode cX7_lent 5 = .ok (.iload_n 2, 1) := by decide +kernel
theorem dX7_lent_6 : decode cX7_lent 6 = .ok (.bipush 10, 2) := by decide +kernel
theorem dX7_lent_8 : decode cX7_lent 8 = .ok (.if_icmp .ne 15, 3) := by decide +kernel
theorem dX7_lent_11 : decode cX7_lent 11 = .ok (.aload_n 0, 1) := by decide +kernel
theorem dX7_lent_12 : decode cX7_lent 12 = .ok (.getfield 19, 3) := by decide +kernel
theorem dX7_lent_15 : decode cX7_lent 15 = .ok (.bipush 41, 2) := by decide +kernel
theorem dX7_lent_17 : decode cX7_lent 17 = .ok (.iload_n 1, 1) := by decide +kernel
theorem dX7_lent_18 : decode cX7_lent 18 = .ok (.iadd, 1) := by decide +kernel
theorem dX7_lent_19 : decode cX7_lent 19 = .ok (.iaload, 1) := by decide +kernel
theorem dX7_lent_20 : decode cX7_lent 20 = .ok (.goto 4, 3) := by decide +kernel
theorem dX7_lent_23 : decode cX7_lent 23 = .ok (.iload_n 1, 1) := by decide +kernel
theorem dX7_lent_24 : decode cX7_lent 24 = .ok (.ireturn, 1) := by decide +kernel
set_option maxRecDepth 20000 in
theorem ggX7_plainMark_X7_begin : GoodIn wsX7_plainMark wsX7_begin := goodIn_r _ [5, 6, 7, 29, 30, 31, 32, 33, 34, 35, 36, 37, 38, 39, 40, 41, 42, 43, 44, 45, 46, 47, 48, 49, 50, 51, 52] (by decide +kernel) (by decide +kernel)
set_option maxRecDepth 20000 in
theorem gX7_plainMark_X7_begin : GoodIn wsX7_plainMark (wsV RX7 230 RX7 yX7_begin wsX7_begin) := goodIn_app (goodIn_of _ (by decide +kernel)) ggX7_plainMark_X7_begin
set_option maxRecDepth 20000 in
theorem ggX7_plainMark_X7_lent : GoodIn wsX7_plainMark wsX7_lent := goodIn_r _ [11, 12, 1, 2, 3, 4, 5, 6, 7, 29, 30, 31, 32, 33, 34, 35, 36, 37, 38, 39, 40, 41, 42, 43, 44, 45, 46, 47, 48, 49, 50, 51, 52] (by decide +kernel) (by decide +kernel)
set_option maxRecDepth 20000 in
theorem gX7_plainMark_X7_lent : GoodIn wsX7_plainMark (wsV RX7 234 RX7 yX7_lent wsX7_lent) := goodIn_app (goodIn_of _ (by decide +kernel)) ggX7_plainMark_X7_lent
set_option maxRecDepth 20000 in
theorem ggX7_plainMark_X7_weightOf : GoodIn wsX7_plainMark wsX7_weightOf := goodIn_r _ [16, 12, 17, 18, 19, 4, 20, 21, 22, 23, 24, 25, 26, 27, 28, 29, 30, 31, 32, 33, 34, 35, 36, 37, 38, 39, 40, 41, 42, 43, 44, 45, 46, 47, 48, 49, 50, 51, 52] (by decide +kernel) (by decide +kernel)
set_option maxRecDepth 20000 in
theorem gX7_plainMark_X7_weightOf : GoodIn wsX7_plainMark (wsV RX7 156 RX7 yX7_weightOf wsX7_weightOf) := goodIn_app (goodIn_of _ (by decide +kernel)) ggX7_plainMark_X7_weightOf
theorem dX7_plainMark_0 : decode cX7_plainMark 0 = .ok (.aload_n 0, 1) := by decide +kernel
theorem dX7_plainMark_1 : decode cX7_plainMark 1 = .ok (.bipush 21, 2) := by decide +kernel
theorem dX7_plainMark_3 : decode cX7_plainMark 3 = .ok (.invokevirtual 230, 3) := by decide +kernel
theorem dX7_plainMark_6 : decode cX7_plainMark 6 = .ok (.aload_n 0, 1) := by decide +kernel
theorem dX7_plainMark_7 : decode cX7_plainMark 7 = .ok (.iload_n 1, 1) := by decide +kernel
theorem dX7_plainMark_8 : decode cX7_plainMark 8 = .ok (.bipush 20, 2) := by decide +kernel
theorem dX7_plainMark_10 : decode cX7_plainMark 10 = .ok (.invokevirtual 234, 3) := by decide +kernel
theorem dX7_plainMark_13 : decode cX7_plainMark 13 = .ok (.aload_n 0, 1) := by decide +kernel
theorem dX7_plainMark_14 : decode cX7_plainMark 14 = .ok (.iload_n 1, 1) := by decide +kernel
theorem dX7_plainMark_15 : decode cX7_plainMark 15 = .ok (.invokevirtual 156, 3) := by decide +kernel
theorem dX7_plainMark_18 : decode cX7_plainMark 18 = .ok (.iadd, 1) := by decide +kernel
theorem dX7_plainMark_19 : decode cX7_plainMark 19 = .ok (.ireturn, 1) := by decide +kernel
set_option maxRecDepth 20000 in
theorem ggX7_oathSize_X7_begin : GoodIn wsX7_oathSize wsX7_begin := goodIn_r _ [5, 6, 7, 13, 14, 15, 16, 17, 18, 19, 20, 21, 22, 23, 24, 25, 26, 27, 28, 29, 30, 31, 32, 33, 34, 35, 36] (by decide +kernel) (by decide +kernel)
set_option maxRecDepth 20000 in
theorem gX7_oathSize_X7_begin : GoodIn wsX7_oathSize (wsV RX7 230 RX7 yX7_begin wsX7_begin) := goodIn_app (goodIn_of _ (by decide +kernel)) ggX7_oathSize_X7_begin
set_option maxRecDepth 20000 in
theorem ggX7_oathSize_X7_lent : GoodIn wsX7_oathSize wsX7_lent := goodIn_r _ [11, 12, 1, 2, 3, 4, 5, 6, 7, 13, 14, 15, 16, 17, 18, 19, 20, 21, 22, 23, 24, 25, 26, 27, 28, 29, 30, 31, 32, 33, 34, 35, 36] (by decide +kernel) (by decide +kernel)
set_option maxRecDepth 20000 in
theorem gX7_oathSize_X7_lent : GoodIn wsX7_oathSize (wsV RX7 234 RX7 yX7_lent wsX7_lent) := goodIn_app (goodIn_of _ (by decide +kernel)) ggX7_oathSize_X7_lent
theorem dX7_oathSize_0 : decode cX7_oathSize 0 = .ok (.aload_n 0, 1) := by decide +kernel
theorem dX7_oathSize_1 : decode cX7_oathSize 1 = .ok (.bipush 13, 2) := by decide +kernel
theorem dX7_oathSize_3 : decode cX7_oathSize 3 = .ok (.invokevirtual 230, 3) := by decide +kernel
theorem dX7_oathSize_6 : decode cX7_oathSize 6 = .ok (.aload_n 0, 1) := by decide +kernel
theorem dX7_oathSize_7 : decode cX7_oathSize 7 = .ok (.iload_n 1, 1) := by decide +kernel
theorem dX7_oathSize_8 : decode cX7_oathSize 8 = .ok (.bipush 10, 2) := by decide +kernel
theorem dX7_oathSize_10 : decode cX7_oathSize 10 = .ok (.invokevirtual 234, 3) := by decide +kernel
theorem dX7_oathSize_13 : decode cX7_oathSize 13 = .ok (.bipush 100, 2) := by decide +kernel
theorem dX7_oathSize_15 : decode cX7_oathSize 15 = .ok (.isub, 1) := by decide +kernel
theorem dX7_oathSize_16 : decode cX7_oathSize 16 = .ok (.ireturn, 1) := by decide +kernel
set_option maxRecDepth 20000 in
theorem ggX7_sizeOfOath_X7_begin : GoodIn wsX7_sizeOfOath wsX7_begin := goodIn_r _ [6, 7, 8, 17, 18, 19, 20, 21, 22, 23, 24, 25, 26, 27, 28, 29, 30, 31, 32, 33, 34, 35, 36, 37, 38, 39, 40] (by decide +kernel) (by decide +kernel)
set_option maxRecDepth 20000 in
theorem gX7_sizeOfOath_X7_begin : GoodIn wsX7_sizeOfOath (wsV RX7 230 RX7 yX7_begin wsX7_begin) := goodIn_app (goodIn_of _ (by decide +kernel)) ggX7_sizeOfOath_X7_begin
set_option maxRecDepth 20000 in
theorem ggX7_sizeOfOath_X7_oathSize : GoodIn wsX7_sizeOfOath wsX7_oathSize := goodIn_r _ [12, 2, 3, 4, 5, 6, 7, 8, 13, 14, 15, 16, 1, 17, 18, 19, 20, 21, 22, 23, 24, 25, 26, 27, 28, 29, 30, 31, 32, 33, 34, 35, 36, 37, 38, 39, 40] (by decide +kernel) (by decide +kernel)
set_option maxRecDepth 20000 in
theorem gX7_sizeOfOath_X7_oathSize : GoodIn wsX7_sizeOfOath (wsV RX7 237 RX7 yX7_oathSize wsX7_oathSize) := goodIn_app (goodIn_of _ (by decide +kernel)) ggX7_sizeOfOath_X7_oathSize
theorem dX7_sizeOfOath_0 : decode cX7_sizeOfOath 0 = .ok (.aload_n 0, 1) := by decide +kernel
theorem dX7_sizeOfOath_1 : decode cX7_sizeOfOath 1 = .ok (.getfield 19, 3) := by decide +kernel
theorem dX7_sizeOfOath_4 : decode cX7_sizeOfOath 4 = .ok (.bipush 9, 2) := by decide +kernel
theorem dX7_sizeOfOath_6 : decode cX7_sizeOfOath 6 = .ok (.iload_n 1, 1) := by decide +kernel
theorem dX7_sizeOfOath_7 : decode cX7_sizeOfOath 7 = .ok (.iadd, 1) := by decide +kernel
theorem dX7_sizeOfOath_8 : decode cX7_sizeOfOath 8 = .ok (.iaload, 1) := by decide +kernel
theorem dX7_sizeOfOath_9 : decode cX7_sizeOfOath 9 = .ok (.iconst 5, 1) := by decide +kernel
theorem dX7_sizeOfOath_10 : decode cX7_sizeOfOath 10 = .ok (.if_icmp .ne 17, 3) := by decide +kernel
theorem dX7_sizeOfOath_13 : decode cX7_sizeOfOath 13 = .ok (.aload_n 0, 1) := by decide +kernel
theorem dX7_sizeOfOath_14 : decode cX7_sizeOfOath 14 = .ok (.bipush 14, 2) := by decide +kernel
theorem dX7_sizeOfOath_16 : decode cX7_sizeOfOath 16 = .ok (.invokevirtual 230, 3) := by decide +kernel
theorem dX7_sizeOfOath_19 : decode cX7_sizeOfOath 19 = .ok (.iconst 2, 1) := by decide +kernel
theorem dX7_sizeOfOath_20 : decode cX7_sizeOfOath 20 = .ok (.aload_n 0, 1) := by decide +kernel
theorem dX7_sizeOfOath_21 : decode cX7_sizeOfOath 21 = .ok (.iload_n 1, 1) := by decide +kernel
theorem dX7_sizeOfOath_22 : decode cX7_sizeOfOath 22 = .ok (.invokevirtual 237, 3) := by decide +kernel
theorem dX7_sizeOfOath_25 : decode cX7_sizeOfOath 25 = .ok (.imul, 1) := by decide +kernel
theorem dX7_sizeOfOath_26 : decode cX7_sizeOfOath 26 = .ok (.ireturn, 1) := by decide +kernel
theorem dX7_sizeOfOath_27 : decode cX7_sizeOfOath 27 = .ok (.aload_n 0, 1) := by decide +kernel
theorem dX7_sizeOfOath_28 : decode cX7_sizeOfOath 28 = .ok (.iload_n 1, 1) := by decide +kernel
theorem dX7_sizeOfOath_29 : decode cX7_sizeOfOath 29 = .ok (.invokevirtual 237, 3) := by decide +kernel
theorem dX7_sizeOfOath_32 : decode cX7_sizeOfOath 32 = .ok (.ireturn, 1) := by decide +kernel
set_option maxRecDepth 20000 in
theorem ggX7_markOf_X7_begin : GoodIn wsX7_markOf wsX7_begin := goodIn_r _ [6, 7, 8, 41, 42, 43, 44, 45, 46, 47, 48, 49, 50, 51, 52, 53, 54, 55, 56, 57, 58, 59, 60, 61, 62, 63, 64] (by decide +kernel) (by decide +kernel)
set_option maxRecDepth 20000 in
theorem gX7_markOf_X7_begin : GoodIn wsX7_markOf (wsV RX7 230 RX7 yX7_begin wsX7_begin) := goodIn_app (goodIn_of _ (by decide +kernel)) ggX7_markOf_X7_begin
set_option maxRecDepth 20000 in
theorem ggX7_markOf_X7_plainMark : GoodIn wsX7_markOf wsX7_plainMark := goodIn_r _ [12, 2, 3, 4, 5, 6, 7, 8, 13, 14, 15, 16, 1, 17, 18, 19, 20, 21, 22, 23, 24, 25, 26, 27, 28, 29, 30, 31, 32, 41, 42, 43, 44, 45, 46, 47, 48, 49, 50, 51, 52, 53, 54, 55, 56, 57, 58, 59, 60, 61, 62, 63, 64] (by decide +kernel) (by decide +kernel)
set_option maxRecDepth 20000 in
theorem gX7_markOf_X7_plainMark : GoodIn wsX7_markOf (wsV RX7 240 RX7 yX7_plainMark wsX7_plainMark) := goodIn_app (goodIn_of _ (by decide +kernel)) ggX7_markOf_X7_plainMark
set_option maxRecDepth 20000 in
theorem ggX7_markOf_X7_lent : GoodIn wsX7_markOf wsX7_lent := goodIn_r _ [16, 1, 2, 3, 4, 5, 6, 7, 8, 41, 42, 43, 44, 45, 46, 47, 48, 49, 50, 51, 52, 53, 54, 55, 56, 57, 58, 59, 60, 61, 62, 63, 64] (by decide +kernel) (by decide +kernel)
set_option maxRecDepth 20000 in
theorem gX7_markOf_X7_lent : GoodIn wsX7_markOf (wsV RX7 234 RX7 yX7_lent wsX7_lent) := goodIn_app (goodIn_of _ (by decide +kernel)) ggX7_markOf_X7_lent
set_option maxRecDepth 20000 in
theorem ggX7_markOf_X7_sizeOfOath : GoodIn wsX7_markOf wsX7_sizeOfOath := goodIn_r _ [36, 1, 2, 3, 4, 5, 6, 7, 8, 37, 38, 39, 40, 13, 14, 15, 16, 41, 42, 43, 44, 45, 46, 47, 48, 49, 50, 51, 52, 53, 54, 55, 56, 57, 58, 59, 60, 61, 62, 63, 64] (by decide +kernel) (by decide +kernel)
set_option maxRecDepth 20000 in
theorem gX7_markOf_X7_sizeOfOath : GoodIn wsX7_markOf (wsV RX7 243 RX7 yX7_sizeOfOath wsX7_sizeOfOath) := goodIn_app (goodIn_of _ (by decide +kernel)) ggX7_markOf_X7_sizeOfOath
theorem dX7_markOf_0 : decode cX7_markOf 0 = .ok (.aload_n 0, 1) := by decide +kernel
theorem dX7_markOf_1 : decode cX7_markOf 1 = .ok (.getfield 19, 3) := by decide +kernel
theorem dX7_markOf_4 : decode cX7_markOf 4 = .ok (.bipush 9, 2) := by decide +kernel
theorem dX7_markOf_6 : decode cX7_markOf 6 = .ok (.iload_n 1, 1) := by decide +kernel
theorem dX7_markOf_7 : decode cX7_markOf 7 = .ok (.iadd, 1) := by decide +kernel
theorem dX7_markOf_8 : decode cX7_markOf 8 = .ok (.iaload, 1) := by decide +kernel
theorem dX7_markOf_9 : decode cX7_markOf 9 = .ok (.istore_n 2, 1) := by decide +kernel
theorem dX7_markOf_10 : decode cX7_markOf 10 = .ok (.iload_n 2, 1) := by decide +kernel
theorem dX7_markOf_11 : decode cX7_markOf 11 = .ok (.iconst 2, 1) := by decide +kernel
theorem dX7_markOf_12 : decode cX7_markOf 12 = .ok (.if_icmp .ne 17, 3) := by decide +kernel
theorem dX7_markOf_15 : decode cX7_markOf 15 = .ok (.aload_n 0, 1) := by decide +kernel
theorem dX7_markOf_16 : decode cX7_markOf 16 = .ok (.bipush 24, 2) := by decide +kernel
theorem dX7_markOf_18 : decode cX7_markOf 18 = .ok (.invokevirtual 230, 3) := by decide +kernel
theorem dX7_markOf_21 : decode cX7_markOf 21 = .ok (.iconst 2, 1) := by decide +kernel
theorem dX7_markOf_22 : decode cX7_markOf 22 = .ok (.aload_n 0, 1) := by decide +kernel
theorem dX7_markOf_23 : decode cX7_markOf 23 = .ok (.iload_n 1, 1) := by decide +kernel
theorem dX7_markOf_24 : decode cX7_markOf 24 = .ok (.invokevirtual 240, 3) := by decide +kernel
theorem dX7_markOf_27 : decode cX7_markOf 27 = .ok (.imul, 1) := by decide +kernel
theorem dX7_markOf_28 : decode cX7_markOf 28 = .ok (.ireturn, 1) := by decide +kernel
theorem dX7_markOf_29 : decode cX7_markOf 29 = .ok (.iload_n 2, 1) := by decide +kernel
theorem dX7_markOf_30 : decode cX7_markOf 30 = .ok (.iconst 3, 1) := by decide +kernel
theorem dX7_markOf_31 : decode cX7_markOf 31 = .ok (.if_icmp .ne 19, 3) := by decide +kernel
theorem dX7_markOf_34 : decode cX7_markOf 34 = .ok (.aload_n 0, 1) := by decide +kernel
theorem dX7_markOf_35 : decode cX7_markOf 35 = .ok (.bipush 22, 2) := by decide +kernel
theorem dX7_markOf_37 : decode cX7_markOf 37 = .ok (.invokevirtual 230, 3) := by decide +kernel
theorem dX7_markOf_40 : decode cX7_markOf 40 = .ok (.aload_n 0, 1) := by decide +kernel
theorem dX7_markOf_41 : decode cX7_markOf 41 = .ok (.iload_n 1, 1) := by decide +kernel
theorem dX7_markOf_42 : decode cX7_markOf 42 = .ok (.invokevirtual 240, 3) := by decide +kernel
theorem dX7_markOf_45 : decode cX7_markOf 45 = .ok (.sipush 1000, 3) := by decide +kernel
theorem dX7_markOf_48 : decode cX7_markOf 48 = .ok (.isub, 1) := by decide +kernel
theorem dX7_markOf_49 : decode cX7_markOf 49 = .ok (.ireturn, 1) := by decide +kernel
theorem dX7_markOf_50 : decode cX7_markOf 50 = .ok (.iload_n 2, 1) := by decide +kernel
theorem dX7_markOf_51 : decode cX7_markOf 51 = .ok (.iconst 1, 1) := by decide +kernel
theorem dX7_markOf_52 : decode cX7_markOf 52 = .ok (.if_icmp .ne 9, 3) := by decide +kernel
theorem dX7_markOf_55 : decode cX7_markOf 55 = .ok (.aload_n 0, 1) := by decide +kernel
theorem dX7_markOf_56 : decode cX7_markOf 56 = .ok (.iload_n 1, 1) := by decide +kernel
theorem dX7_markOf_57 : decode cX7_markOf 57 = .ok (.invokevirtual 240, 3) := by decide +kernel
theorem dX7_markOf_60 : decode cX7_markOf 60 = .ok (.ireturn, 1) := by decide +kernel
theorem dX7_markOf_61 : decode cX7_markOf 61 = .ok (.aload_n 0, 1) := by decide +kernel
theorem dX7_markOf_62 : decode cX7_markOf 62 = .ok (.bipush 23, 2) := by decide +kernel
theorem dX7_markOf_64 : decode cX7_markOf 64 = .ok (.invokevirtual 230, 3) := by decide +kernel
theorem dX7_markOf_67 : decode cX7_markOf 67 = .ok (.aload_n 0, 1) := by decide +kernel
theorem dX7_markOf_68 : decode cX7_markOf 68 = .ok (.iload_n 1, 1) := by decide +kernel
theorem dX7_markOf_69 : decode cX7_markOf 69 = .ok (.bipush 20, 2) := by decide +kernel
theorem dX7_markOf_71 : decode cX7_markOf 71 = .ok (.invokevirtual 234, 3) := by decide +kernel
theorem dX7_markOf_74 : decode cX7_markOf 74 = .ok (.istore_n 3, 1) := by decide +kernel
theorem dX7_markOf_75 : decode cX7_markOf 75 = .ok (.iload_n 3, 1) := by decide +kernel
theorem dX7_markOf_76 : decode cX7_markOf 76 = .ok (.aload_n 0, 1) := by decide +kernel
theorem dX7_markOf_77 : decode cX7_markOf 77 = .ok (.iload_n 1, 1) := by decide +kernel
theorem dX7_markOf_78 : decode cX7_markOf 78 = .ok (.invokevirtual 243, 3) := by decide +kernel
theorem dX7_markOf_81 : decode cX7_markOf 81 = .ok (.isub, 1) := by decide +kernel
theorem dX7_markOf_82 : decode cX7_markOf 82 = .ok (.ireturn, 1) := by decide +kernel
set_option maxRecDepth 20000 in
theorem ggX7_plainSize_X7_begin : GoodIn wsX7_plainSize wsX7_begin := goodIn_r _ [5, 6, 7, 45, 46, 47, 48, 49, 50, 51, 52, 53, 54, 55, 56, 57, 58, 59, 60, 61, 62, 63, 64, 65, 66, 67, 68] (by decide +kernel) (by decide +kernel)
set_option maxRecDepth 20000 in
theorem gX7_plainSize_X7_begin : GoodIn wsX7_plainSize (wsV RX7 230 RX7 yX7_begin wsX7_begin) := goodIn_app (goodIn_of _ (by decide +kernel)) ggX7_plainSize_X7_begin
set_option maxRecDepth 20000 in
theorem ggX7_plainSize_X7_lent : GoodIn wsX7_plainSize wsX7_lent := goodIn_r _ [11, 12, 1, 2, 3, 4, 5, 6, 7, 45, 46, 47, 48, 49, 50, 51, 52, 53, 54, 55, 56, 57, 58, 59, 60, 61, 62, 63, 64, 65, 66, 67, 68] (by decide +kernel) (by decide +kernel)
set_option maxRecDepth 20000 in
theorem gX7_plainSize_X7_lent : GoodIn wsX7_plainSize (wsV RX7 234 RX7 yX7_lent wsX7_lent) := goodIn_app (goodIn_of _ (by decide +kernel)) ggX7_plainSize_X7_lent
set_option maxRecDepth 20000 in
theorem ggX7_plainSize_X7_markOf : GoodIn wsX7_plainSize wsX7_markOf := goodIn_r _ [16, 12, 1, 2, 3, 4, 5, 6, 7, 17, 18, 19, 20, 8, 9, 10, 11, 21, 22, 23, 24, 25, 26, 27, 28, 29, 30, 31, 32, 33, 34, 35, 36, 37, 38, 39, 40, 41, 42, 43, 44, 45, 46, 47, 48, 49, 50, 51, 52, 53, 54, 55, 56, 57, 58, 59, 60, 61, 62, 63, 64, 65, 66, 67, 68] (by decide +kernel) (by decide +kernel)
set_option maxRecDepth 20000 in
theorem gX7_plainSize_X7_markOf : GoodIn wsX7_plainSize (wsV RX7 246 RX7 yX7_markOf wsX7_markOf) := goodIn_app (goodIn_of _ (by decide +kernel)) ggX7_plainSize_X7_markOf
theorem dX7_plainSize_0 : decode cX7_plainSize 0 = .ok (.aload_n 0, 1) := by decide +kernel
theorem dX7_plainSize_1 : decode cX7_plainSize 1 = .ok (.bipush 11, 2) := by decide +kernel
theorem dX7_plainSize_3 : decode cX7_plainSize 3 = .ok (.invokevirtual 230, 3) := by decide +kernel
theorem dX7_plainSize_6 : decode cX7_plainSize 6 = .ok (.aload_n 0, 1) := by decide +kernel
theorem dX7_plainSize_7 : decode cX7_plainSize 7 = .ok (.iload_n 1, 1) := by decide +kernel
theorem dX7_plainSize_8 : decode cX7_plainSize 8 = .ok (.bipush 10, 2) := by decide +kernel
theorem dX7_plainSize_10 : decode cX7_plainSize 10 = .ok (.invokevirtual 234, 3) := by decide +kernel
theorem dX7_plainSize_13 : decode cX7_plainSize 13 = .ok (.istore_n 2, 1) := by decide +kernel
theorem dX7_plainSize_14 : decode cX7_plainSize 14 = .ok (.iload_n 2, 1) := by decide +kernel
theorem dX7_plainSize_15 : decode cX7_plainSize 15 = .ok (.aload_n 0, 1) := by decide +kernel
theorem dX7_plainSize_16 : decode cX7_plainSize 16 = .ok (.iload_n 1, 1) := by decide +kernel
theorem dX7_plainSize_17 : decode cX7_plainSize 17 = .ok (.invokevirtual 246, 3) := by decide +kernel
theorem dX7_plainSize_20 : decode cX7_plainSize 20 = .ok (.iadd, 1) := by decide +kernel
theorem dX7_plainSize_21 : decode cX7_plainSize 21 = .ok (.ireturn, 1) := by decide +kernel
set_option maxRecDepth 20000 in
theorem ggX7_sizeOf_X7_begin : GoodIn wsX7_sizeOf wsX7_begin := goodIn_r _ [6, 7, 8, 49, 50, 51, 52, 53, 54, 55, 56, 57, 58, 59, 60, 61, 62, 63, 64, 65, 66, 67, 68, 69, 70, 71, 72] (by decide +kernel) (by decide +kernel)
set_option maxRecDepth 20000 in
theorem gX7_sizeOf_X7_begin : GoodIn wsX7_sizeOf (wsV RX7 230 RX7 yX7_begin wsX7_begin) := goodIn_app (goodIn_of _ (by decide +kernel)) ggX7_sizeOf_X7_begin
set_option maxRecDepth 20000 in
theorem ggX7_sizeOf_X7_plainSize : GoodIn wsX7_sizeOf wsX7_plainSize := goodIn_r _ [12, 2, 3, 4, 5, 6, 7, 8, 13, 14, 15, 16, 1, 17, 18, 19, 20, 21, 22, 23, 24, 25, 26, 27, 28, 29, 30, 31, 32, 33, 34, 35, 36, 37, 38, 39, 40, 41, 42, 43, 44, 45, 46, 47, 48, 49, 50, 51, 52, 53, 54, 55, 56, 57, 58, 59, 60, 61, 62, 63, 64, 65, 66, 67, 68, 69, 70, 71, 72] (by decide +kernel) (by decide +kernel)
set_option maxRecDepth 20000 in
theorem gX7_sizeOf_X7_plainSize : GoodIn wsX7_sizeOf (wsV RX7 249 RX7 yX7_plainSize wsX7_plainSize) := goodIn_app (goodIn_of _ (by decide +kernel)) ggX7_sizeOf_X7_plainSize
set_option maxRecDepth 20000 in
theorem ggX7_sizeOf_X7_sizeOfOath : GoodIn wsX7_sizeOf wsX7_sizeOfOath := goodIn_r _ [44, 1, 2, 3, 4, 5, 6, 7, 8, 45, 46, 47, 48, 13, 14, 15, 16, 49, 50, 51, 52, 53, 54, 55, 56, 57, 58, 59, 60, 61, 62, 63, 64, 65, 66, 67, 68, 69, 70, 71, 72] (by decide +kernel) (by decide +kernel)
set_option maxRecDepth 20000 in
theorem gX7_sizeOf_X7_sizeOfOath : GoodIn wsX7_sizeOf (wsV RX7 243 RX7 yX7_sizeOfOath wsX7_sizeOfOath) := goodIn_app (goodIn_of _ (by decide +kernel)) ggX7_sizeOf_X7_sizeOfOath
theorem dX7_sizeOf_0 : decode cX7_sizeOf 0 = .ok (.aload_n 0, 1) := by decide +kernel
theorem dX7_sizeOf_1 : decode cX7_sizeOf 1 = .ok (.getfield 19, 3) := by decide +kernel
theorem dX7_sizeOf_4 : decode cX7_sizeOf 4 = .ok (.bipush 9, 2) := by decide +kernel
theorem dX7_sizeOf_6 : decode cX7_sizeOf 6 = .ok (.iload_n 1, 1) := by decide +kernel
theorem dX7_sizeOf_7 : decode cX7_sizeOf 7 = .ok (.iadd, 1) := by decide +kernel
theorem dX7_sizeOf_8 : decode cX7_sizeOf 8 = .ok (.iaload, 1) := by decide +kernel
theorem dX7_sizeOf_9 : decode cX7_sizeOf 9 = .ok (.istore_n 2, 1) := by decide +kernel
theorem dX7_sizeOf_10 : decode cX7_sizeOf 10 = .ok (.iload_n 2, 1) := by decide +kernel
theorem dX7_sizeOf_11 : decode cX7_sizeOf 11 = .ok (.iconst 2, 1) := by decide +kernel
theorem dX7_sizeOf_12 : decode cX7_sizeOf 12 = .ok (.if_icmp .ne 16, 3) := by decide +kernel
theorem dX7_sizeOf_15 : decode cX7_sizeOf 15 = .ok (.aload_n 0, 1) := by decide +kernel
theorem dX7_sizeOf_16 : decode cX7_sizeOf 16 = .ok (.bipush 12, 2) := by decide +kernel
theorem dX7_sizeOf_18 : decode cX7_sizeOf 18 = .ok (.invokevirtual 230, 3) := by decide +kernel
theorem dX7_sizeOf_21 : decode cX7_sizeOf 21 = .ok (.aload_n 0, 1) := by decide +kernel
theorem dX7_sizeOf_22 : decode cX7_sizeOf 22 = .ok (.iload_n 1, 1) := by decide +kernel
theorem dX7_sizeOf_23 : decode cX7_sizeOf 23 = .ok (.invokevirtual 249, 3) := by decide +kernel
theorem dX7_sizeOf_26 : decode cX7_sizeOf 26 = .ok (.ineg, 1) := by decide +kernel
theorem dX7_sizeOf_27 : decode cX7_sizeOf 27 = .ok (.ireturn, 1) := by decide +kernel
theorem dX7_sizeOf_28 : decode cX7_sizeOf 28 = .ok (.iload_n 2, 1) := by decide +kernel
theorem dX7_sizeOf_29 : decode cX7_sizeOf 29 = .ok (.iconst 4, 1) := by decide +kernel
theorem dX7_sizeOf_30 : decode cX7_sizeOf 30 = .ok (.if_icmp .lt 11, 3) := by decide +kernel
theorem dX7_sizeOf_33 : decode cX7_sizeOf 33 = .ok (.aload_n 0, 1) := by decide +kernel
theorem dX7_sizeOf_34 : decode cX7_sizeOf 34 = .ok (.iload_n 1, 1) := by decide +kernel
theorem dX7_sizeOf_35 : decode cX7_sizeOf 35 = .ok (.invokevirtual 243, 3) := by decide +kernel
theorem dX7_sizeOf_38 : decode cX7_sizeOf 38 = .ok (.goto 8, 3) := by decide +kernel
theorem dX7_sizeOf_41 : decode cX7_sizeOf 41 = .ok (.aload_n 0, 1) := by decide +kernel
theorem dX7_sizeOf_42 : decode cX7_sizeOf 42 = .ok (.iload_n 1, 1) := by decide +kernel
theorem dX7_sizeOf_43 : decode cX7_sizeOf 43 = .ok (.invokevirtual 249, 3) := by decide +kernel
theorem dX7_sizeOf_46 : decode cX7_sizeOf 46 = .ok (.ireturn, 1) := by decide +kernel
set_option maxRecDepth 20000 in
theorem ggX7_ask_X7_isPromise : GoodIn wsX7_ask wsX7_isPromise := goodIn_r _ [7, 8, 9, 10, 6, 11, 61, 62, 63, 64, 65, 66, 67, 68, 69, 70, 71, 72, 73, 74, 75, 76, 77, 78, 79, 80, 81, 82, 83, 84] (by decide +kernel) (by decide +kernel)
set_option maxRecDepth 20000 in
theorem gX7_ask_X7_isPromise : GoodIn wsX7_ask (wsV RX7 165 RX7 yX7_isPromise wsX7_isPromise) := goodIn_app (goodIn_of _ (by decide +kernel)) ggX7_ask_X7_isPromise
set_option maxRecDepth 20000 in
theorem ggX7_ask_X7_in : GoodIn wsX7_ask wsX7_in := goodIn_r _ [11] (by decide +kernel) (by decide +kernel)
set_option maxRecDepth 20000 in
theorem gX7_ask_X7_in : GoodIn wsX7_ask (va_wsS RX7 54 yX7_in wsX7_in) := goodIn_app (goodIn_of _ (by decide +kernel)) ggX7_ask_X7_in
set_option maxRecDepth 20000 in
theorem ggX7_ask_X7_sizeOf : GoodIn wsX7_ask wsX7_sizeOf := goodIn_r _ [15, 8, 16, 17, 18, 6, 19, 2, 20, 21, 22, 23, 24, 25, 26, 27, 28, 29, 30, 31, 32, 33, 34, 35, 36, 37, 38, 39, 40, 41, 42, 43, 44, 45, 46, 47, 48, 49, 50, 51, 52, 53, 54, 55, 56, 57, 58, 59, 60, 61, 62, 63, 64, 65, 66, 67, 68, 69, 70, 71, 72, 73, 74, 75, 76, 77, 78, 79, 80, 81, 82, 83, 84] (by decide +kernel) (by decide +kernel)
set_option maxRecDepth 20000 in
theorem gX7_ask_X7_sizeOf : GoodIn wsX7_ask (wsV RX7 252 RX7 yX7_sizeOf wsX7_sizeOf) := goodIn_app (goodIn_of _ (by decide +kernel)) ggX7_ask_X7_sizeOf
set_option maxRecDepth 20000 in
theorem ggX7_ask_X7_markOf : GoodIn wsX7_ask wsX7_markOf := goodIn_r _ [32, 8, 16, 17, 18, 6, 19, 2, 20, 33, 34, 35, 36, 25, 26, 27, 28, 37, 38, 39, 40, 41, 42, 43, 44, 45, 46, 47, 48, 49, 50, 51, 52, 53, 54, 55, 56, 57, 58, 59, 60, 61, 62, 63, 64, 65, 66, 67, 68, 69, 70, 71, 72, 73, 74, 75, 76, 77, 78, 79, 80, 81, 82, 83, 84] (by decide +kernel) (by decide +kernel)
set_option maxRecDepth 20000 in
theorem gX7_ask_X7_markOf : GoodIn wsX7_ask (wsV RX7 246 RX7 yX7_markOf wsX7_markOf) := goodIn_app (goodIn_of _ (by decide +kernel)) ggX7_ask_X7_markOf
theorem dX7_ask_0 : decode cX7_ask 0 = .ok (.aload_n 0, 1) := by decide +kernel
theorem dX7_ask_1 : decode cX7_ask 1 = .ok (.iload_n 1, 1) := by decide +kernel
theorem dX7_ask_2 : decode cX7_ask 2 = .ok (.invokevirtual 165, 3) := by decide +kernel
theorem dX7_ask_5 : decode cX7_ask 5 = .ok (.ifCond .eq 13, 3) := by decide +kernel
theorem dX7_ask_8 : decode cX7_ask 8 = .ok (.iload_n 2, 1) := by decide +kernel
theorem dX7_ask_9 : decode cX7_ask 9 = .ok (.i2l, 1) := by decide +kernel
theorem dX7_ask_10 : decode cX7_ask 10 = .ok (.lconst 0, 1) := by decide +kernel
theorem dX7_ask_11 : decode cX7_ask 11 = .ok (.lconst 1, 1) := by decide +kernel
theorem dX7_ask_12 : decode cX7_ask 12 = .ok (.invokestatic 54, 3) := by decide +kernel
theorem dX7_ask_15 : decode cX7_ask 15 = .ok (.ifCond .ne 6, 3) := by decide +kernel
theorem dX7_ask_18 : decode cX7_ask 18 = .ok (.ldc 64, 2) := by decide +kernel
theorem dX7_ask_20 : decode cX7_ask 20 = .ok (.ireturn, 1) := by decide +kernel
theorem dX7_ask_21 : decode cX7_ask 21 = .ok (.aload_n 0, 1) := by decide +kernel
theorem dX7_ask_22 : decode cX7_ask 22 = .ok (.iconst 0, 1) := by decide +kernel
theorem dX7_ask_23 : decode cX7_ask 23 = .ok (.putfield 227, 3) := by decide +kernel
theorem dX7_ask_26 : decode cX7_ask 26 = .ok (.iload_n 2, 1) := by decide +kernel
theorem dX7_ask_27 : decode cX7_ask 27 = .ok (.ifCond .ne 11, 3) := by decide +kernel
theorem dX7_ask_30 : decode cX7_ask 30 = .ok (.aload_n 0, 1) := by decide +kernel
theorem dX7_ask_31 : decode cX7_ask 31 = .ok (.iload_n 1, 1) := by decide +kernel
theorem dX7_ask_32 : decode cX7_ask 32 = .ok (.invokevirtual 252, 3) := by decide +kernel
theorem dX7_ask_35 : decode cX7_ask 35 = .ok (.goto 8, 3) := by decide +kernel
theorem dX7_ask_38 : decode cX7_ask 38 = .ok (.aload_n 0, 1) := by decide +kernel
theorem dX7_ask_39 : decode cX7_ask 39 = .ok (.iload_n 1, 1) := by decide +kernel
theorem dX7_ask_40 : decode cX7_ask 40 = .ok (.invokevirtual 246, 3) := by decide +kernel
theorem dX7_ask_43 : decode cX7_ask 43 = .ok (.ireturn, 1) := by decide +kernel
set_option maxRecDepth 20000 in
theorem ggX7_trace_X7_in : GoodIn wsX7_trace wsX7_in := goodIn_r _ [7] (by decide +kernel) (by decide +kernel)
set_option maxRecDepth 20000 in
theorem gX7_trace_X7_in : GoodIn wsX7_trace (va_wsS RX7 54 yX7_in wsX7_in) := goodIn_app (goodIn_of _ (by decide +kernel)) ggX7_trace_X7_in
theorem dX7_trace_0 : decode cX7_trace 0 = .ok (.iload_n 1, 1) := by decide +kernel
theorem dX7_trace_1 : decode cX7_trace 1 = .ok (.i2l, 1) := by decide +kernel
theorem dX7_trace_2 : decode cX7_trace 2 = .ok (.lconst 0, 1) := by decide +kernel
theorem dX7_trace_3 : decode cX7_trace 3 = .ok (.aload_n 0, 1) := by decide +kernel
theorem dX7_trace_4 : decode cX7_trace 4 = .ok (.getfield 227, 3) := by decide +kernel
theorem dX7_trace_7 : decode cX7_trace 7 = .ok (.iconst 1, 1) := by decide +kernel
theorem dX7_trace_8 : decode cX7_trace 8 = .ok (.isub, 1) := by decide +kernel
theorem dX7_trace_9 : decode cX7_trace 9 = .ok (.i2l, 1) := by decide +kernel
theorem dX7_trace_10 : decode cX7_trace 10 = .ok (.invokestatic 54, 3) := by decide +kernel
theorem dX7_trace_13 : decode cX7_trace 13 = .ok (.ifCond .eq 12, 3) := by decide +kernel
theorem dX7_trace_16 : decode cX7_trace 16 = .ok (.aload_n 0, 1) := by decide +kernel
theorem dX7_trace_17 : decode cX7_trace 17 = .ok (.getfield 44, 3) := by decide +kernel
theorem dX7_trace_20 : decode cX7_trace 20 = .ok (.iload_n 1, 1) := by decide +kernel
theorem dX7_trace_21 : decode cX7_trace 21 = .ok (.iaload, 1) := by decide +kernel
theorem dX7_trace_22 : decode cX7_trace 22 = .ok (.goto 5, 3) := by decide +kernel
theorem dX7_trace_25 : decode cX7_trace 25 = .ok (.ldc 187, 2) := by decide +kernel
theorem dX7_trace_27 : decode cX7_trace 27 = .ok (.ireturn, 1) := by decide +kernel
set_option maxRecDepth 20000 in
theorem ggX7_count_X7_readOf : GoodIn wsX7_count wsX7_readOf := goodIn_r _ [11, 2, 12, 13, 14, 10, 15, 16, 17, 18, 19, 20, 21, 22, 23, 24, 25, 26, 27, 28, 29, 30, 31, 32, 33, 34, 35, 36, 37, 38, 39, 40, 41, 42, 43, 44, 45, 46, 47, 48, 49, 50, 51, 52, 53, 54, 55, 56, 57, 58, 59, 60, 61] (by decide +kernel) (by decide +kernel)
set_option maxRecDepth 20000 in
theorem gX7_count_X7_readOf : GoodIn wsX7_count (wsV RX7 172 RX7 yX7_readOf wsX7_readOf) := goodIn_app (goodIn_of _ (by decide +kernel)) ggX7_count_X7_readOf
theorem dX7_count_0 : decode cX7_count 0 = .ok (.iconst 0, 1) := by decide +kernel
theorem dX7_count_1 : decode cX7_count 1 = .ok (.istore_n 2, 1) := by decide +kernel
theorem dX7_count_2 : decode cX7_count 2 = .ok (.iconst 0, 1) := by decide +kernel
theorem dX7_count_3 : decode cX7_count 3 = .ok (.istore_n 3, 1) := by decide +kernel
theorem dX7_count_4 : decode cX7_count 4 = .ok (.iload_n 3, 1) := by decide +kernel
theorem dX7_count_5 : decode cX7_count 5 = .ok (.bipush 8, 2) := by decide +kernel
theorem dX7_count_7 : decode cX7_count 7 = .ok (.if_icmp .ge 26, 3) := by decide +kernel
theorem dX7_count_10 : decode cX7_count 10 = .ok (.iload_n 2, 1) := by decide +kernel
theorem dX7_count_11 : decode cX7_count 11 = .ok (.aload_n 0, 1) := by decide +kernel
theorem dX7_count_12 : decode cX7_count 12 = .ok (.getfield 13, 3) := by decide +kernel
theorem dX7_count_15 : decode cX7_count 15 = .ok (.iload_n 3, 1) := by decide +kernel
theorem dX7_count_16 : decode cX7_count 16 = .ok (.iaload, 1) := by decide +kernel
theorem dX7_count_17 : decode cX7_count 17 = .ok (.ifCond .lt 7, 3) := by decide +kernel
theorem dX7_count_20 : decode cX7_count 20 = .ok (.iconst 1, 1) := by decide +kernel
theorem dX7_count_21 : decode cX7_count 21 = .ok (.goto 4, 3) := by decide +kernel
theorem dX7_count_24 : decode cX7_count 24 = .ok (.iconst 0, 1) := by decide +kernel
theorem dX7_count_25 : decode cX7_count 25 = .ok (.iadd, 1) := by decide +kernel
theorem dX7_count_26 : decode cX7_count 26 = .ok (.istore_n 2, 1) := by decide +kernel
theorem dX7_count_27 : decode cX7_count 27 = .ok (.iinc 3 1, 3) := by decide +kernel
theorem dX7_count_30 : decode cX7_count 30 = .ok (.goto (-26), 3) := by decide +kernel
theorem dX7_count_33 : decode cX7_count 33 = .ok (.iload_n 1, 1) := by decide +kernel
theorem dX7_count_34 : decode cX7_count 34 = .ok (.tableswitch 119 0 8 #[50, 52, 59, 66, 73, 95, 102, 109, 114], 50) := by decide +kernel
theorem dX7_count_84 : decode cX7_count 84 = .ok (.iload_n 2, 1) := by decide +kernel
theorem dX7_count_85 : decode cX7_count 85 = .ok (.ireturn, 1) := by decide +kernel
theorem dX7_count_86 : decode cX7_count 86 = .ok (.aload_n 0, 1) := by decide +kernel
theorem dX7_count_87 : decode cX7_count 87 = .ok (.getfield 19, 3) := by decide +kernel
theorem dX7_count_90 : decode cX7_count 90 = .ok (.iconst 3, 1) := by decide +kernel
theorem dX7_count_91 : decode cX7_count 91 = .ok (.iaload, 1) := by decide +kernel
theorem dX7_count_92 : decode cX7_count 92 = .ok (.ireturn, 1) := by decide +kernel
theorem dX7_count_93 : decode cX7_count 93 = .ok (.aload_n 0, 1) := by decide +kernel
theorem dX7_count_94 : decode cX7_count 94 = .ok (.getfield 19, 3) := by decide +kernel
theorem dX7_count_97 : decode cX7_count 97 = .ok (.iconst 2, 1) := by decide +kernel
theorem dX7_count_98 : decode cX7_count 98 = .ok (.iaload, 1) := by decide +kernel
theorem dX7_count_99 : decode cX7_count 99 = .ok (.ireturn, 1) := by decide +kernel
theorem dX7_count_100 : decode cX7_count 100 = .ok (.aload_n 0, 1) := by decide +kernel
theorem dX7_count_101 : decode cX7_count 101 = .ok (.getfield 19, 3) := by decide +kernel
theorem dX7_count_104 : decode cX7_count 104 = .ok (.iconst 4, 1) := by decide +kernel
theorem dX7_count_105 : decode cX7_count 105 = .ok (.iaload, 1) := by decide +kernel
theorem dX7_count_106 : decode cX7_count 106 = .ok (.ireturn, 1) := by decide +kernel
theorem dX7_count_107 : decode cX7_count 107 = .ok (.aload_n 0, 1) := by decide +kernel
theorem dX7_count_108 : decode cX7_count 108 = .ok (.getfield 135, 3) := by decide +kernel
theorem dX7_count_111 : decode cX7_count 111 = .ok (.ifCond .eq 16, 3) := by decide +kernel
theorem dX7_count_114 : decode cX7_count 114 = .ok (.aload_n 0, 1) := by decide +kernel
theorem dX7_count_115 : decode cX7_count 115 = .ok (.aload_n 0, 1) := by decide +kernel
theorem dX7_count_116 : decode cX7_count 116 = .ok (.getfield 19, 3) := by decide +kernel
theorem dX7_count_119 : decode cX7_count 119 = .ok (.iconst 4, 1) := by decide +kernel
theorem dX7_count_120 : decode cX7_count 120 = .ok (.iaload, 1) := by decide +kernel
theorem dX7_count_121 : decode cX7_count 121 = .ok (.invokevirtual 172, 3) := by decide +kernel
theorem dX7_count_124 : decode cX7_count 124 = .ok (.goto 4, 3) := by decide +kernel
theorem dX7_count_127 : decode cX7_count 127 = .ok (.iconst 0, 1) := by decide +kernel
theorem dX7_count_128 : decode cX7_count 128 = .ok (.ireturn, 1) := by decide +kernel
theorem dX7_count_129 : decode cX7_count 129 = .ok (.aload_n 0, 1) := by decide +kernel
theorem dX7_count_130 : decode cX7_count 130 = .ok (.getfield 19, 3) := by decide +kernel
theorem dX7_count_133 : decode cX7_count 133 = .ok (.iconst 0, 1) := by decide +kernel
theorem dX7_count_134 : decode cX7_count 134 = .ok (.iaload, 1) := by decide +kernel
theorem dX7_count_135 : decode cX7_count 135 = .ok (.ireturn, 1) := by decide +kernel
theorem dX7_count_136 : decode cX7_count 136 = .ok (.aload_n 0, 1) := by decide +kernel
theorem dX7_count_137 : decode cX7_count 137 = .ok (.getfield 19, 3) := by decide +kernel
theorem dX7_count_140 : decode cX7_count 140 = .ok (.iconst 1, 1) := by decide +kernel
theorem dX7_count_141 : decode cX7_count 141 = .ok (.iaload, 1) := by decide +kernel
theorem dX7_count_142 : decode cX7_count 142 = .ok (.ireturn, 1) := by decide +kernel
theorem dX7_count_143 : decode cX7_count 143 = .ok (.aload_n 0, 1) := by decide +kernel
theorem dX7_count_144 : decode cX7_count 144 = .ok (.getfield 139, 3) := by decide +kernel
theorem dX7_count_147 : decode cX7_count 147 = .ok (.ireturn, 1) := by decide +kernel
theorem dX7_count_148 : decode cX7_count 148 = .ok (.aload_n 0, 1) := by decide +kernel
theorem dX7_count_149 : decode cX7_count 149 = .ok (.getfield 78, 3) := by decide +kernel
theorem dX7_count_152 : decode cX7_count 152 = .ok (.ireturn, 1) := by decide +kernel
theorem dX7_count_153 : decode cX7_count 153 = .ok (.ldc 64, 2) := by decide +kernel
theorem dX7_count_155 : decode cX7_count 155 = .ok (.ireturn, 1) := by decide +kernel
theorem dX7_status_0 : decode cX7_status 0 = .ok (.aload_n 0, 1) := by decide +kernel
theorem dX7_status_1 : decode cX7_status 1 = .ok (.getfield 47, 3) := by decide +kernel
theorem dX7_status_4 : decode cX7_status 4 = .ok (.ireturn, 1) := by decide +kernel
theorem dJ6_bitCount_0f7a4_0 : decode cJ6_bitCount_0f7a4 0 = .ok (.iload_n 0, 1) := by decide +kernel
theorem dJ6_bitCount_0f7a4_1 : decode cJ6_bitCount_0f7a4 1 = .ok (.iload_n 0, 1) := by decide +kernel
theorem dJ6_bitCount_0f7a4_2 : decode cJ6_bitCount_0f7a4 2 = .ok (.iconst 1, 1) := by decide +kernel
theorem dJ6_bitCount_0f7a4_3 : decode cJ6_bitCount_0f7a4 3 = .ok (.iushr, 1) := by decide +kernel
theorem dJ6_bitCount_0f7a4_4 : decode cJ6_bitCount_0f7a4 4 = .ok (.ldc_w 265, 3) := by decide +kernel
theorem dJ6_bitCount_0f7a4_7 : decode cJ6_bitCount_0f7a4 7 = .ok (.iand, 1) := by decide +kernel
theorem dJ6_bitCount_0f7a4_8 : decode cJ6_bitCount_0f7a4 8 = .ok (.isub, 1) := by decide +kernel
theorem dJ6_bitCount_0f7a4_9 : decode cJ6_bitCount_0f7a4 9 = .ok (.istore_n 0, 1) := by decide +kernel
theorem dJ6_bitCount_0f7a4_10 : decode cJ6_bitCount_0f7a4 10 = .ok (.iload_n 0, 1) := by decide +kernel
theorem dJ6_bitCount_0f7a4_11 : decode cJ6_bitCount_0f7a4 11 = .ok (.ldc_w 266, 3) := by decide +kernel
theorem dJ6_bitCount_0f7a4_14 : decode cJ6_bitCount_0f7a4 14 = .ok (.iand, 1) := by decide +kernel
theorem dJ6_bitCount_0f7a4_15 : decode cJ6_bitCount_0f7a4 15 = .ok (.iload_n 0, 1) := by decide +kernel
theorem dJ6_bitCount_0f7a4_16 : decode cJ6_bitCount_0f7a4 16 = .ok (.iconst 2, 1) := by decide +kernel
theorem dJ6_bitCount_0f7a4_17 : decode cJ6_bitCount_0f7a4 17 = .ok (.iushr, 1) := by decide +kernel
theorem dJ6_bitCount_0f7a4_18 : decode cJ6_bitCount_0f7a4 18 = .ok (.ldc_w 266, 3) := by decide +kernel
theorem dJ6_bitCount_0f7a4_21 : decode cJ6_bitCount_0f7a4 21 = .ok (.iand, 1) := by decide +kernel
theorem dJ6_bitCount_0f7a4_22 : decode cJ6_bitCount_0f7a4 22 = .ok (.iadd, 1) := by decide +kernel
theorem dJ6_bitCount_0f7a4_23 : decode cJ6_bitCount_0f7a4 23 = .ok (.istore_n 0, 1) := by decide +kernel
theorem dJ6_bitCount_0f7a4_24 : decode cJ6_bitCount_0f7a4 24 = .ok (.iload_n 0, 1) := by decide +kernel
theorem dJ6_bitCount_0f7a4_25 : decode cJ6_bitCount_0f7a4 25 = .ok (.iload_n 0, 1) := by decide +kernel
theorem dJ6_bitCount_0f7a4_26 : decode cJ6_bitCount_0f7a4 26 = .ok (.iconst 4, 1) := by decide +kernel
theorem dJ6_bitCount_0f7a4_27 : decode cJ6_bitCount_0f7a4 27 = .ok (.iushr, 1) := by decide +kernel
theorem dJ6_bitCount_0f7a4_28 : decode cJ6_bitCount_0f7a4 28 = .ok (.iadd, 1) := by decide +kernel
theorem dJ6_bitCount_0f7a4_29 : decode cJ6_bitCount_0f7a4 29 = .ok (.ldc_w 267, 3) := by decide +kernel
theorem dJ6_bitCount_0f7a4_32 : decode cJ6_bitCount_0f7a4 32 = .ok (.iand, 1) := by decide +kernel
theorem dJ6_bitCount_0f7a4_33 : decode cJ6_bitCount_0f7a4 33 = .ok (.istore_n 0, 1) := by decide +kernel
theorem dJ6_bitCount_0f7a4_34 : decode cJ6_bitCount_0f7a4 34 = .ok (.iload_n 0, 1) := by decide +kernel
theorem dJ6_bitCount_0f7a4_35 : decode cJ6_bitCount_0f7a4 35 = .ok (.iload_n 0, 1) := by decide +kernel
theorem dJ6_bitCount_0f7a4_36 : decode cJ6_bitCount_0f7a4 36 = .ok (.bipush 8, 2) := by decide +kernel
theorem dJ6_bitCount_0f7a4_38 : decode cJ6_bitCount_0f7a4 38 = .ok (.iushr, 1) := by decide +kernel
theorem dJ6_bitCount_0f7a4_39 : decode cJ6_bitCount_0f7a4 39 = .ok (.iadd, 1) := by decide +kernel
theorem dJ6_bitCount_0f7a4_40 : decode cJ6_bitCount_0f7a4 40 = .ok (.istore_n 0, 1) := by decide +kernel
theorem dJ6_bitCount_0f7a4_41 : decode cJ6_bitCount_0f7a4 41 = .ok (.iload_n 0, 1) := by decide +kernel
theorem dJ6_bitCount_0f7a4_42 : decode cJ6_bitCount_0f7a4 42 = .ok (.iload_n 0, 1) := by decide +kernel
theorem dJ6_bitCount_0f7a4_43 : decode cJ6_bitCount_0f7a4 43 = .ok (.bipush 16, 2) := by decide +kernel
theorem dJ6_bitCount_0f7a4_45 : decode cJ6_bitCount_0f7a4 45 = .ok (.iushr, 1) := by decide +kernel
theorem dJ6_bitCount_0f7a4_46 : decode cJ6_bitCount_0f7a4 46 = .ok (.iadd, 1) := by decide +kernel
theorem dJ6_bitCount_0f7a4_47 : decode cJ6_bitCount_0f7a4 47 = .ok (.istore_n 0, 1) := by decide +kernel
theorem dJ6_bitCount_0f7a4_48 : decode cJ6_bitCount_0f7a4 48 = .ok (.iload_n 0, 1) := by decide +kernel
theorem dJ6_bitCount_0f7a4_49 : decode cJ6_bitCount_0f7a4 49 = .ok (.bipush 63, 2) := by decide +kernel
theorem dJ6_bitCount_0f7a4_51 : decode cJ6_bitCount_0f7a4 51 = .ok (.iand, 1) := by decide +kernel
theorem dJ6_bitCount_0f7a4_52 : decode cJ6_bitCount_0f7a4 52 = .ok (.ireturn, 1) := by decide +kernel
theorem dJ9_max_7cf53_0 : decode cJ9_max_7cf53 0 = .ok (.iload_n 0, 1) := by decide +kernel
theorem dJ9_max_7cf53_1 : decode cJ9_max_7cf53 1 = .ok (.iload_n 1, 1) := by decide +kernel
theorem dJ9_max_7cf53_2 : decode cJ9_max_7cf53 2 = .ok (.if_icmp .lt 7, 3) := by decide +kernel
theorem dJ9_max_7cf53_5 : decode cJ9_max_7cf53 5 = .ok (.iload_n 0, 1) := by decide +kernel
theorem dJ9_max_7cf53_6 : decode cJ9_max_7cf53 6 = .ok (.goto 4, 3) := by decide +kernel
theorem dJ9_max_7cf53_9 : decode cJ9_max_7cf53 9 = .ok (.iload_n 1, 1) := by decide +kernel
theorem dJ9_max_7cf53_10 : decode cJ9_max_7cf53 10 = .ok (.ireturn, 1) := by decide +kernel
theorem dJ9_min_7cf53_0 : decode cJ9_min_7cf53 0 = .ok (.iload_n 0, 1) := by decide +kernel
theorem dJ9_min_7cf53_1 : decode cJ9_min_7cf53 1 = .ok (.iload_n 1, 1) := by decide +kernel
theorem dJ9_min_7cf53_2 : decode cJ9_min_7cf53 2 = .ok (.if_icmp .gt 7, 3) := by decide +kernel
theorem dJ9_min_7cf53_5 : decode cJ9_min_7cf53 5 = .ok (.iload_n 0, 1) := by decide +kernel
theorem dJ9_min_7cf53_6 : decode cJ9_min_7cf53 6 = .ok (.goto 4, 3) := by decide +kernel
theorem dJ9_min_7cf53_9 : decode cJ9_min_7cf53 9 = .ok (.iload_n 1, 1) := by decide +kernel
theorem dJ9_min_7cf53_10 : decode cJ9_min_7cf53 10 = .ok (.ireturn, 1) := by decide +kernel
