theorem dX0_init_0 : decode cX0_init 0 = .ok (.aload_n 0, 1) := by decide +kernel
theorem dX0_init_1 : decode cX0_init 1 = .ok (.invokespecial 3, 3) := by decide +kernel
theorem dX0_init_4 : decode cX0_init 4 = .ok (.aload_n 0, 1) := by decide +kernel
theorem dX0_init_5 : decode cX0_init 5 = .ok (.bipush 24, 2) := by decide +kernel
theorem dX0_init_7 : decode cX0_init 7 = .ok (.newarray .int, 2) := by decide +kernel
theorem dX0_init_9 : decode cX0_init 9 = .ok (.putfield 11, 3) := by decide +kernel
theorem dX0_init_12 : decode cX0_init 12 = .ok (.aload_n 0, 1) := by decide +kernel
theorem dX0_init_13 : decode cX0_init 13 = .ok (.bipush 24, 2) := by decide +kernel
theorem dX0_init_15 : decode cX0_init 15 = .ok (.newarray .int, 2) := by decide +kernel
theorem dX0_init_17 : decode cX0_init 17 = .ok (.putfield 15, 3) := by decide +kernel
theorem dX0_init_20 : decode cX0_init 20 = .ok (.aload_n 0, 1) := by decide +kernel
theorem dX0_init_21 : decode cX0_init 21 = .ok (.bipush 24, 2) := by decide +kernel
theorem dX0_init_23 : decode cX0_init 23 = .ok (.newarray .int, 2) := by decide +kernel
theorem dX0_init_25 : decode cX0_init 25 = .ok (.putfield 18, 3) := by decide +kernel
theorem dX0_init_28 : decode cX0_init 28 = .ok (.aload_n 0, 1) := by decide +kernel
theorem dX0_init_29 : decode cX0_init 29 = .ok (.bipush 24, 2) := by decide +kernel
theorem dX0_init_31 : decode cX0_init 31 = .ok (.newarray .int, 2) := by decide +kernel
theorem dX0_init_33 : decode cX0_init 33 = .ok (.putfield 21, 3) := by decide +kernel
theorem dX0_init_36 : decode cX0_init 36 = .ok (.return_, 1) := by decide +kernel
theorem dX0_forgetAll_0 : decode cX0_forgetAll 0 = .ok (.aload_n 0, 1) := by decide +kernel
theorem dX0_forgetAll_1 : decode cX0_forgetAll 1 = .ok (.iconst 0, 1) := by decide +kernel
theorem dX0_forgetAll_2 : decode cX0_forgetAll 2 = .ok (.putfield 24, 3) := by decide +kernel
theorem dX0_forgetAll_5 : decode cX0_forgetAll 5 = .ok (.aload_n 0, 1) := by decide +kernel
theorem dX0_forgetAll_6 : decode cX0_forgetAll 6 = .ok (.iconst 0, 1) := by decide +kernel
theorem dX0_forgetAll_7 : decode cX0_forgetAll 7 = .ok (.putfield 28, 3) := by decide +kernel
theorem dX0_forgetAll_10 : decode cX0_forgetAll 10 = .ok (.return_, 1) := by decide +kernel
theorem dX0_remember_0 : decode cX0_remember 0 = .ok (.aload_n 0, 1) := by decide +kernel
theorem dX0_remember_1 : decode cX0_remember 1 = .ok (.getfield 28, 3) := by decide +kernel
theorem dX0_remember_4 : decode cX0_remember 4 = .ok (.bipush 24, 2) := by decide +kernel
theorem dX0_remember_6 : decode cX0_remember 6 = .ok (.if_icmp .ne 26, 3) := by decide +kernel
theorem dX0_remember_9 : decode cX0_remember 9 = .ok (.aload_n 0, 1) := by decide +kernel
theorem dX0_remember_10 : decode cX0_remember 10 = .ok (.aload_n 0, 1) := by decide +kernel
theorem dX0_remember_11 : decode cX0_remember 11 = .ok (.getfield 24, 3) := by decide +kernel
theorem dX0_remember_14 : decode cX0_remember 14 = .ok (.iconst 1, 1) := by decide +kernel
theorem dX0_remember_15 : decode cX0_remember 15 = .ok (.iadd, 1) := by decide +kernel
theorem dX0_remember_16 : decode cX0_remember 16 = .ok (.bipush 24, 2) := by decide +kernel
theorem dX0_remember_18 : decode cX0_remember 18 = .ok (.irem, 1) := by decide +kernel
theorem dX0_remember_19 : decode cX0_remember 19 = .ok (.putfield 24, 3) := by decide +kernel
theorem dX0_remember_22 : decode cX0_remember 22 = .ok (.aload_n 0, 1) := by decide +kernel
theorem dX0_remember_23 : decode cX0_remember 23 = .ok (.dup, 1) := by decide +kernel
theorem dX0_remember_24 : decode cX0_remember 24 = .ok (.getfield 28, 3) := by decide +kernel
theorem dX0_remember_27 : decode cX0_remember 27 = .ok (.iconst 1, 1) := by decide +kernel
theorem dX0_remember_28 : decode cX0_remember 28 = .ok (.isub, 1) := by decide +kernel
theorem dX0_remember_29 : decode cX0_remember 29 = .ok (.putfield 28, 3) := by decide +kernel
theorem dX0_remember_32 : decode cX0_remember 32 = .ok (.aload_n 0, 1) := by decide +kernel
theorem dX0_remember_33 : decode cX0_remember 33 = .ok (.getfield 24, 3) := by decide +kernel
theorem dX0_remember_36 : decode cX0_remember 36 = .ok (.aload_n 0, 1) := by decide +kernel
theorem dX0_remember_37 : decode cX0_remember 37 = .ok (.getfield 28, 3) := by decide +kernel
theorem dX0_remember_40 : decode cX0_remember 40 = .ok (.iadd, 1) := by decide +kernel
theorem dX0_remember_41 : decode cX0_remember 41 = .ok (.bipush 24, 2) := by decide +kernel
theorem dX0_remember_43 : decode cX0_remember 43 = .ok (.irem, 1) := by decide +kernel
theorem dX0_remember_44 : decode cX0_remember 44 = .ok (.istore_n 3, 1) := by decide +kernel
theorem dX0_remember_45 : decode cX0_remember 45 = .ok (.aload_n 0, 1) := by decide +kernel
theorem dX0_remember_46 : decode cX0_remember 46 = .ok (.getfield 11, 3) := by decide +kernel
theorem dX0_remember_49 : decode cX0_remember 49 = .ok (.iload_n 3, 1) := by decide +kernel
theorem dX0_remember_50 : decode cX0_remember 50 = .ok (.iload_n 2, 1) := by decide +kernel
theorem dX0_remember_51 : decode cX0_remember 51 = .ok (.iastore, 1) := by decide +kernel
theorem dX0_remember_52 : decode cX0_remember 52 = .ok (.aload_n 0, 1) := by decide +kernel
theorem dX0_remember_53 : decode cX0_remember 53 = .ok (.getfield 15, 3) := by decide +kernel
theorem dX0_remember_56 : decode cX0_remember 56 = .ok (.iload_n 3, 1) := by decide +kernel
theorem dX0_remember_57 : decode cX0_remember 57 = .ok (.aload_n 1, 1) := by decide +kernel
theorem dX0_remember_58 : decode cX0_remember 58 = .ok (.getfield 31, 3) := by decide +kernel
theorem dX0_remember_61 : decode cX0_remember 61 = .ok (.iastore, 1) := by decide +kernel
theorem dX0_remember_62 : decode cX0_remember 62 = .ok (.aload_n 0, 1) := by decide +kernel
theorem dX0_remember_63 : decode cX0_remember 63 = .ok (.getfield 18, 3) := by decide +kernel
theorem dX0_remember_66 : decode cX0_remember 66 = .ok (.iload_n 3, 1) := by decide +kernel
theorem dX0_remember_67 : decode cX0_remember 67 = .ok (.aload_n 1, 1) := by decide +kernel
theorem dX0_remember_68 : decode cX0_remember 68 = .ok (.getfield 36, 3) := by decide +kernel
theorem dX0_remember_71 : decode cX0_remember 71 = .ok (.iastore, 1) := by decide +kernel
theorem dX0_remember_72 : decode cX0_remember 72 = .ok (.iload_n 2, 1) := by decide +kernel
theorem dX0_remember_73 : decode cX0_remember 73 = .ok (.iconst (-1), 1) := by decide +kernel
theorem dX0_remember_74 : decode cX0_remember 74 = .ok (.if_icmp .eq 20, 3) := by decide +kernel
theorem dX0_remember_77 : decode cX0_remember 77 = .ok (.aload_n 0, 1) := by decide +kernel
theorem dX0_remember_78 : decode cX0_remember 78 = .ok (.getfield 21, 3) := by decide +kernel
theorem dX0_remember_81 : decode cX0_remember 81 = .ok (.iload_n 3, 1) := by decide +kernel
theorem dX0_remember_82 : decode cX0_remember 82 = .ok (.aload_n 1, 1) := by decide +kernel
theorem dX0_remember_83 : decode cX0_remember 83 = .ok (.getfield 39, 3) := by decide +kernel
theorem dX0_remember_86 : decode cX0_remember 86 = .ok (.aload_n 1, 1) := by decide +kernel
theorem dX0_remember_87 : decode cX0_remember 87 = .ok (.getfield 42, 3) := by decide +kernel
theorem dX0_remember_90 : decode cX0_remember 90 = .ok (.iload_n 2, 1) := by decide +kernel
theorem dX0_remember_91 : decode cX0_remember 91 = .ok (.iaload, 1) := by decide +kernel
theorem dX0_remember_92 : decode cX0_remember 92 = .ok (.iaload, 1) := by decide +kernel
theorem dX0_remember_93 : decode cX0_remember 93 = .ok (.iastore, 1) := by decide +kernel
theorem dX0_remember_94 : decode cX0_remember 94 = .ok (.aload_n 0, 1) := by decide +kernel
theorem dX0_remember_95 : decode cX0_remember 95 = .ok (.dup, 1) := by decide +kernel
theorem dX0_remember_96 : decode cX0_remember 96 = .ok (.getfield 28, 3) := by decide +kernel
theorem dX0_remember_99 : decode cX0_remember 99 = .ok (.iconst 1, 1) := by decide +kernel
theorem dX0_remember_100 : decode cX0_remember 100 = .ok (.iadd, 1) := by decide +kernel
theorem dX0_remember_101 : decode cX0_remember 101 = .ok (.putfield 28, 3) := by decide +kernel
theorem dX0_remember_104 : decode cX0_remember 104 = .ok (.return_, 1) := by decide +kernel
theorem dX0_takeBack_0 : decode cX0_takeBack 0 = .ok (.aload_n 0, 1) := by decide +kernel
theorem dX0_takeBack_1 : decode cX0_takeBack 1 = .ok (.getfield 28, 3) := by decide +kernel
theorem dX0_takeBack_4 : decode cX0_takeBack 4 = .ok (.ifCond .ne 4, 3) := by decide +kernel
theorem dX0_takeBack_7 : decode cX0_takeBack 7 = .ok (.return_, 1) := by decide +kernel
theorem dX0_takeBack_8 : decode cX0_takeBack 8 = .ok (.aload_n 0, 1) := by decide +kernel
theorem dX0_takeBack_9 : decode cX0_takeBack 9 = .ok (.dup, 1) := by decide +kernel
theorem dX0_takeBack_10 : decode cX0_takeBack 10 = .ok (.getfield 28, 3) := by decide +kernel
theorem dX0_takeBack_13 : decode cX0_takeBack 13 = .ok (.iconst 1, 1) := by decide +kernel
theorem dX0_takeBack_14 : decode cX0_takeBack 14 = .ok (.isub, 1) := by decide +kernel
theorem dX0_takeBack_15 : decode cX0_takeBack 15 = .ok (.putfield 28, 3) := by decide +kernel
theorem dX0_takeBack_18 : decode cX0_takeBack 18 = .ok (.aload_n 0, 1) := by decide +kernel
theorem dX0_takeBack_19 : decode cX0_takeBack 19 = .ok (.getfield 24, 3) := by decide +kernel
theorem dX0_takeBack_22 : decode cX0_takeBack 22 = .ok (.aload_n 0, 1) := by decide +kernel
theorem dX0_takeBack_23 : decode cX0_takeBack 23 = .ok (.getfield 28, 3) := by decide +kernel
theorem dX0_takeBack_26 : decode cX0_takeBack 26 = .ok (.iadd, 1) := by decide +kernel
theorem dX0_takeBack_27 : decode cX0_takeBack 27 = .ok (.bipush 24, 2) := by decide +kernel
theorem dX0_takeBack_29 : decode cX0_takeBack 29 = .ok (.irem, 1) := by decide +kernel
theorem dX0_takeBack_30 : decode cX0_takeBack 30 = .ok (.istore_n 2, 1) := by decide +kernel
theorem dX0_takeBack_31 : decode cX0_takeBack 31 = .ok (.aload_n 0, 1) := by decide +kernel
theorem dX0_takeBack_32 : decode cX0_takeBack 32 = .ok (.getfield 11, 3) := by decide +kernel
theorem dX0_takeBack_35 : decode cX0_takeBack 35 = .ok (.iload_n 2, 1) := by decide +kernel
theorem dX0_takeBack_36 : decode cX0_takeBack 36 = .ok (.iaload, 1) := by decide +kernel
theorem dX0_takeBack_37 : decode cX0_takeBack 37 = .ok (.istore_n 3, 1) := by decide +kernel
theorem dX0_takeBack_38 : decode cX0_takeBack 38 = .ok (.aload_n 1, 1) := by decide +kernel
theorem dX0_takeBack_39 : decode cX0_takeBack 39 = .ok (.aload_n 0, 1) := by decide +kernel
theorem dX0_takeBack_40 : decode cX0_takeBack 40 = .ok (.getfield 15, 3) := by decide +kernel
theorem dX0_takeBack_43 : decode cX0_takeBack 43 = .ok (.iload_n 2, 1) := by decide +kernel
theorem dX0_takeBack_44 : decode cX0_takeBack 44 = .ok (.iaload, 1) := by decide +kernel
theorem dX0_takeBack_45 : decode cX0_takeBack 45 = .ok (.putfield 31, 3) := by decide +kernel
theorem dX0_takeBack_48 : decode cX0_takeBack 48 = .ok (.aload_n 1, 1) := by decide +kernel
theorem dX0_takeBack_49 : decode cX0_takeBack 49 = .ok (.aload_n 0, 1) := by decide +kernel
theorem dX0_takeBack_50 : decode cX0_takeBack 50 = .ok (.getfield 18, 3) := by decide +kernel
theorem dX0_takeBack_53 : decode cX0_takeBack 53 = .ok (.iload_n 2, 1) := by decide +kernel
theorem dX0_takeBack_54 : decode cX0_takeBack 54 = .ok (.iaload, 1) := by decide +kernel
theorem dX0_takeBack_55 : decode cX0_takeBack 55 = .ok (.putfield 36, 3) := by decide +kernel
theorem dX0_takeBack_58 : decode cX0_takeBack 58 = .ok (.iload_n 3, 1) := by decide +kernel
theorem dX0_takeBack_59 : decode cX0_takeBack 59 = .ok (.iconst (-1), 1) := by decide +kernel
theorem dX0_takeBack_60 : decode cX0_takeBack 60 = .ok (.if_icmp .eq 27, 3) := by decide +kernel
theorem dX0_takeBack_63 : decode cX0_takeBack 63 = .ok (.aload_n 1, 1) := by decide +kernel
theorem dX0_takeBack_64 : decode cX0_takeBack 64 = .ok (.getfield 45, 3) := by decide +kernel
theorem dX0_takeBack_67 : decode cX0_takeBack 67 = .ok (.iload_n 3, 1) := by decide +kernel
theorem dX0_takeBack_68 : decode cX0_takeBack 68 = .ok (.iconst 0, 1) := by decide +kernel
theorem dX0_takeBack_69 : decode cX0_takeBack 69 = .ok (.iastore, 1) := by decide +kernel
theorem dX0_takeBack_70 : decode cX0_takeBack 70 = .ok (.aload_n 1, 1) := by decide +kernel
theorem dX0_takeBack_71 : decode cX0_takeBack 71 = .ok (.getfield 39, 3) := by decide +kernel
theorem dX0_takeBack_74 : decode cX0_takeBack 74 = .ok (.aload_n 1, 1) := by decide +kernel
theorem dX0_takeBack_75 : decode cX0_takeBack 75 = .ok (.getfield 42, 3) := by decide +kernel
theorem dX0_takeBack_78 : decode cX0_takeBack 78 = .ok (.iload_n 3, 1) := by decide +kernel
theorem dX0_takeBack_79 : decode cX0_takeBack 79 = .ok (.iaload, 1) := by decide +kernel
theorem dX0_takeBack_80 : decode cX0_takeBack 80 = .ok (.aload_n 0, 1) := by decide +kernel
theorem dX0_takeBack_81 : decode cX0_takeBack 81 = .ok (.getfield 21, 3) := by decide +kernel
theorem dX0_takeBack_84 : decode cX0_takeBack 84 = .ok (.iload_n 2, 1) := by decide +kernel
theorem dX0_takeBack_85 : decode cX0_takeBack 85 = .ok (.iaload, 1) := by decide +kernel
theorem dX0_takeBack_86 : decode cX0_takeBack 86 = .ok (.iastore, 1) := by decide +kernel
theorem dX0_takeBack_87 : decode cX0_takeBack 87 = .ok (.return_, 1) := by decide +kernel
theorem dX1_init_0 : decode cX1_init 0 = .ok (.aload_n 0, 1) := by decide +kernel
theorem dX1_init_1 : decode cX1_init 1 = .ok (.invokespecial 3, 3) := by decide +kernel
theorem dX1_init_4 : decode cX1_init 4 = .ok (.aload_n 0, 1) := by decide +kernel
theorem dX1_init_5 : decode cX1_init 5 = .ok (.bipush 16, 2) := by decide +kernel
theorem dX1_init_7 : decode cX1_init 7 = .ok (.newarray .int, 2) := by decide +kernel
theorem dX1_init_9 : decode cX1_init 9 = .ok (.putfield 11, 3) := by decide +kernel
theorem dX1_init_12 : decode cX1_init 12 = .ok (.return_, 1) := by decide +kernel
set_option maxRecDepth 20000 in
theorem ggX1_turnTo_X4_weightOf : GoodIn wsX1_turnTo wsX4_weightOf := goodIn_r _ [12, 13, 14, 15, 11, 16, 17, 18, 19, 20, 21, 22, 23, 24, 25, 26, 27, 28, 29, 30, 31, 32, 33, 34, 35, 36, 37, 44, 45, 46, 47, 48, 49, 50, 51, 52, 53, 54, 55, 56] (by decide +kernel) (by decide +kernel)
set_option maxRecDepth 20000 in
theorem gX1_turnTo_X4_weightOf : GoodIn wsX1_turnTo (wsV RX1 36 RX4 yX4_weightOf wsX4_weightOf) := goodIn_app (goodIn_of _ (by decide +kernel)) ggX1_turnTo_X4_weightOf
theorem dX1_turnTo_0 : decode cX1_turnTo 0 = .ok (.aload_n 0, 1) := by decide +kernel
theorem dX1_turnTo_1 : decode cX1_turnTo 1 = .ok (.iconst 0, 1) := by decide +kernel
theorem dX1_turnTo_2 : decode cX1_turnTo 2 = .ok (.putfield 15, 3) := by decide +kernel
theorem dX1_turnTo_5 : decode cX1_turnTo 5 = .ok (.aload_n 0, 1) := by decide +kernel
theorem dX1_turnTo_6 : decode cX1_turnTo 6 = .ok (.aload_n 1, 1) := by decide +kernel
theorem dX1_turnTo_7 : decode cX1_turnTo 7 = .ok (.getfield 19, 3) := by decide +kernel
theorem dX1_turnTo_10 : decode cX1_turnTo 10 = .ok (.iload_n 2, 1) := by decide +kernel
theorem dX1_turnTo_11 : decode cX1_turnTo 11 = .ok (.iaload, 1) := by decide +kernel
theorem dX1_turnTo_12 : decode cX1_turnTo 12 = .ok (.putfield 24, 3) := by decide +kernel
theorem dX1_turnTo_15 : decode cX1_turnTo 15 = .ok (.aload_n 0, 1) := by decide +kernel
theorem dX1_turnTo_16 : decode cX1_turnTo 16 = .ok (.iload_n 2, 1) := by decide +kernel
theorem dX1_turnTo_17 : decode cX1_turnTo 17 = .ok (.putfield 27, 3) := by decide +kernel
theorem dX1_turnTo_20 : decode cX1_turnTo 20 = .ok (.aload_n 0, 1) := by decide +kernel
theorem dX1_turnTo_21 : decode cX1_turnTo 21 = .ok (.aload_n 1, 1) := by decide +kernel
theorem dX1_turnTo_22 : decode cX1_turnTo 22 = .ok (.getfield 30, 3) := by decide +kernel
theorem dX1_turnTo_25 : decode cX1_turnTo 25 = .ok (.iload_n 2, 1) := by decide +kernel
theorem dX1_turnTo_26 : decode cX1_turnTo 26 = .ok (.iaload, 1) := by decide +kernel
theorem dX1_turnTo_27 : decode cX1_turnTo 27 = .ok (.putfield 33, 3) := by decide +kernel
theorem dX1_turnTo_30 : decode cX1_turnTo 30 = .ok (.aload_n 0, 1) := by decide +kernel
theorem dX1_turnTo_31 : decode cX1_turnTo 31 = .ok (.aload_n 1, 1) := by decide +kernel
theorem dX1_turnTo_32 : decode cX1_turnTo 32 = .ok (.iload_n 2, 1) := by decide +kernel
theorem dX1_turnTo_33 : decode cX1_turnTo 33 = .ok (.invokevirtual 36, 3) := by decide +kernel
theorem dX1_turnTo_36 : decode cX1_turnTo 36 = .ok (.putfield 40, 3) := by decide +kernel
theorem dX1_turnTo_39 : decode cX1_turnTo 39 = .ok (.return_, 1) := by decide +kernel
theorem dX1_bodyAt_0 : decode cX1_bodyAt 0 = .ok (.iload_n 1, 1) := by decide +kernel
theorem dX1_bodyAt_1 : decode cX1_bodyAt 1 = .ok (.ifCond .lt 20, 3) := by decide +kernel
theorem dX1_bodyAt_4 : decode cX1_bodyAt 4 = .ok (.iload_n 1, 1) := by decide +kernel
theorem dX1_bodyAt_5 : decode cX1_bodyAt 5 = .ok (.aload_n 0, 1) := by decide +kernel
theorem dX1_bodyAt_6 : decode cX1_bodyAt 6 = .ok (.getfield 15, 3) := by decide +kernel
theorem dX1_bodyAt_9 : decode cX1_bodyAt 9 = .ok (.if_icmp .ge 12, 3) := by decide +kernel
theorem dX1_bodyAt_12 : decode cX1_bodyAt 12 = .ok (.aload_n 0, 1) := by decide +kernel
theorem dX1_bodyAt_13 : decode cX1_bodyAt 13 = .ok (.getfield 11, 3) := by decide +kernel
theorem dX1_bodyAt_16 : decode cX1_bodyAt 16 = .ok (.iload_n 1, 1) := by decide +kernel
theorem dX1_bodyAt_17 : decode cX1_bodyAt 17 = .ok (.iaload, 1) := by decide +kernel
theorem dX1_bodyAt_18 : decode cX1_bodyAt 18 = .ok (.goto 5, 3) := by decide +kernel
theorem dX1_bodyAt_21 : decode cX1_bodyAt 21 = .ok (.ldc 43, 2) := by decide +kernel
theorem dX1_bodyAt_23 : decode cX1_bodyAt 23 = .ok (.ireturn, 1) := by decide +kernel
set_option maxRecDepth 20000 in
theorem ggX1_size_X6_isOfKind : GoodIn wsX1_size wsX6_isOfKind := goodIn_r _ [4, 5, 6, 3, 7] (by decide +kernel) (by decide +kernel)
set_option maxRecDepth 20000 in
theorem gX1_size_X6_isOfKind_n44 : GoodIn wsX1_size (wsX6_isOfKind) := ggX1_size_X6_isOfKind
set_option maxRecDepth 20000 in
theorem ggX1_size_X1_sizeOfOath : GoodIn wsX1_size wsX1_sizeOfOath := goodIn_r _ [12, 1, 13, 14, 15, 16, 11, 17, 18, 19, 30, 31, 32, 33, 34, 35] (by decide +kernel) (by decide +kernel)
set_option maxRecDepth 20000 in
theorem gX1_size_X1_sizeOfOath : GoodIn wsX1_size (wsV RX1 48 RX1 yX1_sizeOfOath wsX1_sizeOfOath) := goodIn_app (goodIn_of _ (by decide +kernel)) ggX1_size_X1_sizeOfOath
set_option maxRecDepth 20000 in
theorem ggX1_size_X1_sizeOfPlain : GoodIn wsX1_size wsX1_sizeOfPlain := goodIn_r _ [23, 1, 13, 14, 15, 16, 11, 17, 18, 19, 24, 25, 26, 27, 28, 29, 30, 31, 32, 33, 34, 35] (by decide +kernel) (by decide +kernel)
set_option maxRecDepth 20000 in
theorem gX1_size_X1_sizeOfPlain : GoodIn wsX1_size (wsV RX1 52 RX1 yX1_sizeOfPlain wsX1_sizeOfPlain) := goodIn_app (goodIn_of _ (by decide +kernel)) ggX1_size_X1_sizeOfPlain
theorem dX1_size_0 : decode cX1_size 0 = .ok (.aload_n 0, 1) := by decide +kernel
theorem dX1_size_1 : decode cX1_size 1 = .ok (.getfield 24, 3) := by decide +kernel
theorem dX1_size_4 : decode cX1_size 4 = .ok (.iconst 4, 1) := by decide +kernel
theorem dX1_size_5 : decode cX1_size 5 = .ok (.invokestatic 44, 3) := by decide +kernel
theorem dX1_size_8 : decode cX1_size 8 = .ok (.ifCond .eq 10, 3) := by decide +kernel
theorem dX1_size_11 : decode cX1_size 11 = .ok (.aload_n 0, 1) := by decide +kernel
theorem dX1_size_12 : decode cX1_size 12 = .ok (.invokevirtual 48, 3) := by decide +kernel
theorem dX1_size_15 : decode cX1_size 15 = .ok (.goto 7, 3) := by decide +kernel
theorem dX1_size_18 : decode cX1_size 18 = .ok (.aload_n 0, 1) := by decide +kernel
theorem dX1_size_19 : decode cX1_size 19 = .ok (.invokevirtual 52, 3) := by decide +kernel
theorem dX1_size_22 : decode cX1_size 22 = .ok (.ireturn, 1) := by decide +kernel
set_option maxRecDepth 20000 in
theorem ggX1_mark_X6_isOfKind : GoodIn wsX1_mark wsX6_isOfKind := goodIn_r _ [4, 5, 6, 3, 7] (by decide +kernel) (by decide +kernel)
set_option maxRecDepth 20000 in
theorem gX1_mark_X6_isOfKind_n44 : GoodIn wsX1_mark (wsX6_isOfKind) := ggX1_mark_X6_isOfKind
set_option maxRecDepth 20000 in
theorem ggX1_mark_X1_markOfOath : GoodIn wsX1_mark wsX1_markOfOath := goodIn_r _ [12, 13, 14, 15, 16, 11, 17, 18, 19, 20, 21, 22, 23, 1, 24, 30, 31, 32, 33, 34, 35] (by decide +kernel) (by decide +kernel)
set_option maxRecDepth 20000 in
theorem gX1_mark_X1_markOfOath : GoodIn wsX1_mark (wsV RX1 55 RX1 yX1_markOfOath wsX1_markOfOath) := goodIn_app (goodIn_of _ (by decide +kernel)) ggX1_mark_X1_markOfOath
set_option maxRecDepth 20000 in
theorem ggX1_mark_X1_markOfPlain : GoodIn wsX1_mark wsX1_markOfPlain := goodIn_r _ [28, 1, 13, 29, 14, 15, 16, 11, 17, 18, 19, 30, 31, 32, 33, 34, 35] (by decide +kernel) (by decide +kernel)
set_option maxRecDepth 20000 in
theorem gX1_mark_X1_markOfPlain : GoodIn wsX1_mark (wsV RX1 58 RX1 yX1_markOfPlain wsX1_markOfPlain) := goodIn_app (goodIn_of _ (by decide +kernel)) ggX1_mark_X1_markOfPlain
theorem dX1_mark_0 : decode cX1_mark 0 = .ok (.aload_n 0, 1) := by decide +kernel
theorem dX1_mark_1 : decode cX1_mark 1 = .ok (.getfield 24, 3) := by decide +kernel
theorem dX1_mark_4 : decode cX1_mark 4 = .ok (.iconst 4, 1) := by decide +kernel
theorem dX1_mark_5 : decode cX1_mark 5 = .ok (.invokestatic 44, 3) := by decide +kernel
theorem dX1_mark_8 : decode cX1_mark 8 = .ok (.ifCond .eq 10, 3) := by decide +kernel
theorem dX1_mark_11 : decode cX1_mark 11 = .ok (.aload_n 0, 1) := by decide +kernel
theorem dX1_mark_12 : decode cX1_mark 12 = .ok (.invokevirtual 55, 3) := by decide +kernel
theorem dX1_mark_15 : decode cX1_mark 15 = .ok (.goto 7, 3) := by decide +kernel
theorem dX1_mark_18 : decode cX1_mark 18 = .ok (.aload_n 0, 1) := by decide +kernel
theorem dX1_mark_19 : decode cX1_mark 19 = .ok (.invokevirtual 58, 3) := by decide +kernel
theorem dX1_mark_22 : decode cX1_mark 22 = .ok (.ireturn, 1) := by decide +kernel
theorem dX1_enter_0 : decode cX1_enter 0 = .ok (.aload_n 0, 1) := by decide +kernel
theorem dX1_enter_1 : decode cX1_enter 1 = .ok (.getfield 15, 3) := by decide +kernel
theorem dX1_enter_4 : decode cX1_enter 4 = .ok (.bipush 16, 2) := by decide +kernel
theorem dX1_enter_6 : decode cX1_enter 6 = .ok (.if_icmp .ge 23, 3) := by decide +kernel
theorem dX1_enter_9 : decode cX1_enter 9 = .ok (.aload_n 0, 1) := by decide +kernel
theorem dX1_enter_10 : decode cX1_enter 10 = .ok (.getfield 11, 3) := by decide +kernel
theorem dX1_enter_13 : decode cX1_enter 13 = .ok (.aload_n 0, 1) := by decide +kernel
theorem dX1_enter_14 : decode cX1_enter 14 = .ok (.getfield 15, 3) := by decide +kernel
theorem dX1_enter_17 : decode cX1_enter 17 = .ok (.iload_n 1, 1) := by decide +kernel
theorem dX1_enter_18 : decode cX1_enter 18 = .ok (.iastore, 1) := by decide +kernel
theorem dX1_enter_19 : decode cX1_enter 19 = .ok (.aload_n 0, 1) := by decide +kernel
theorem dX1_enter_20 : decode cX1_enter 20 = .ok (.dup, 1) := by decide +kernel
theorem dX1_enter_21 : decode cX1_enter 21 = .ok (.getfield 15, 3) := by decide +kernel
theorem dX1_enter_24 : decode cX1_enter 24 = .ok (.iconst 1, 1) := by decide +kernel
theorem dX1_enter_25 : decode cX1_enter 25 = .ok (.iadd, 1) := by decide +kernel
theorem dX1_enter_26 : decode cX1_enter 26 = .ok (.putfield 15, 3) := by decide +kernel
theorem dX1_enter_29 : decode cX1_enter 29 = .ok (.return_, 1) := by decide +kernel
set_option maxRecDepth 20000 in
theorem ggX1_sizeOfPlain_X1_enter : GoodIn wsX1_sizeOfPlain wsX1_enter := goodIn_r _ [7, 8, 9, 16, 17, 18, 19, 20, 21] (by decide +kernel) (by decide +kernel)
set_option maxRecDepth 20000 in
theorem gX1_sizeOfPlain_X1_enter : GoodIn wsX1_sizeOfPlain (wsV RX1 61 RX1 yX1_enter wsX1_enter) := goodIn_app (goodIn_of _ (by decide +kernel)) ggX1_sizeOfPlain_X1_enter
set_option maxRecDepth 20000 in
theorem ggX1_sizeOfPlain_X1_markOfPlain : GoodIn wsX1_sizeOfPlain wsX1_markOfPlain := goodIn_r _ [13, 1, 14, 15, 3, 4, 5, 6, 7, 8, 9, 16, 17, 18, 19, 20, 21] (by decide +kernel) (by decide +kernel)
set_option maxRecDepth 20000 in
theorem gX1_sizeOfPlain_X1_markOfPlain : GoodIn wsX1_sizeOfPlain (wsV RX1 58 RX1 yX1_markOfPlain wsX1_markOfPlain) := goodIn_app (goodIn_of _ (by decide +kernel)) ggX1_sizeOfPlain_X1_markOfPlain
theorem dX1_sizeOfPlain_0 : decode cX1_sizeOfPlain 0 = .ok (.aload_n 0, 1) := by decide +kernel
theorem dX1_sizeOfPlain_1 : decode cX1_sizeOfPlain 1 = .ok (.getfield 24, 3) := by decide +kernel
theorem dX1_sizeOfPlain_4 : decode cX1_sizeOfPlain 4 = .ok (.iconst 2, 1) := by decide +kernel
theorem dX1_sizeOfPlain_5 : decode cX1_sizeOfPlain 5 = .ok (.if_icmp .ne 9, 3) := by decide +kernel
theorem dX1_sizeOfPlain_8 : decode cX1_sizeOfPlain 8 = .ok (.aload_n 0, 1) := by decide +kernel
theorem dX1_sizeOfPlain_9 : decode cX1_sizeOfPlain 9 = .ok (.bipush 12, 2) := by decide +kernel
theorem dX1_sizeOfPlain_11 : decode cX1_sizeOfPlain 11 = .ok (.invokevirtual 61, 3) := by decide +kernel
theorem dX1_sizeOfPlain_14 : decode cX1_sizeOfPlain 14 = .ok (.aload_n 0, 1) := by decide +kernel
theorem dX1_sizeOfPlain_15 : decode cX1_sizeOfPlain 15 = .ok (.bipush 11, 2) := by decide +kernel
theorem dX1_sizeOfPlain_17 : decode cX1_sizeOfPlain 17 = .ok (.invokevirtual 61, 3) := by decide +kernel
theorem dX1_sizeOfPlain_20 : decode cX1_sizeOfPlain 20 = .ok (.aload_n 0, 1) := by decide +kernel
theorem dX1_sizeOfPlain_21 : decode cX1_sizeOfPlain 21 = .ok (.bipush 10, 2) := by decide +kernel
theorem dX1_sizeOfPlain_23 : decode cX1_sizeOfPlain 23 = .ok (.invokevirtual 61, 3) := by decide +kernel
theorem dX1_sizeOfPlain_26 : decode cX1_sizeOfPlain 26 = .ok (.aload_n 0, 1) := by decide +kernel
theorem dX1_sizeOfPlain_27 : decode cX1_sizeOfPlain 27 = .ok (.getfield 33, 3) := by decide +kernel
theorem dX1_sizeOfPlain_30 : decode cX1_sizeOfPlain 30 = .ok (.aload_n 0, 1) := by decide +kernel
theorem dX1_sizeOfPlain_31 : decode cX1_sizeOfPlain 31 = .ok (.invokevirtual 58, 3) := by decide +kernel
theorem dX1_sizeOfPlain_34 : decode cX1_sizeOfPlain 34 = .ok (.iadd, 1) := by decide +kernel
theorem dX1_sizeOfPlain_35 : decode cX1_sizeOfPlain 35 = .ok (.istore_n 1, 1) := by decide +kernel
theorem dX1_sizeOfPlain_36 : decode cX1_sizeOfPlain 36 = .ok (.aload_n 0, 1) := by decide +kernel
theorem dX1_sizeOfPlain_37 : decode cX1_sizeOfPlain 37 = .ok (.getfield 24, 3) := by decide +kernel
theorem dX1_sizeOfPlain_40 : decode cX1_sizeOfPlain 40 = .ok (.iconst 2, 1) := by decide +kernel
theorem dX1_sizeOfPlain_41 : decode cX1_sizeOfPlain 41 = .ok (.if_icmp .ne 8, 3) := by decide +kernel
theorem dX1_sizeOfPlain_44 : decode cX1_sizeOfPlain 44 = .ok (.iload_n 1, 1) := by decide +kernel
theorem dX1_sizeOfPlain_45 : decode cX1_sizeOfPlain 45 = .ok (.ineg, 1) := by decide +kernel
theorem dX1_sizeOfPlain_46 : decode cX1_sizeOfPlain 46 = .ok (.goto 4, 3) := by decide +kernel
theorem dX1_sizeOfPlain_49 : decode cX1_sizeOfPlain 49 = .ok (.iload_n 1, 1) := by decide +kernel
theorem dX1_sizeOfPlain_50 : decode cX1_sizeOfPlain 50 = .ok (.ireturn, 1) := by decide +kernel
set_option maxRecDepth 20000 in
theorem ggX1_markOfPlain_X1_enter : GoodIn wsX1_markOfPlain wsX1_enter := goodIn_r _ [8, 9, 10, 11, 12, 13, 14, 15, 16] (by decide +kernel) (by decide +kernel)
set_option maxRecDepth 20000 in
theorem gX1_markOfPlain_X1_enter : GoodIn wsX1_markOfPlain (wsV RX1 61 RX1 yX1_enter wsX1_enter) := goodIn_app (goodIn_of _ (by decide +kernel)) ggX1_markOfPlain_X1_enter
theorem dX1_markOfPlain_0 : decode cX1_markOfPlain 0 = .ok (.aload_n 0, 1) := by decide +kernel
theorem dX1_markOfPlain_1 : decode cX1_markOfPlain 1 = .ok (.getfield 24, 3) := by decide +kernel
theorem dX1_markOfPlain_4 : decode cX1_markOfPlain 4 = .ok (.iconst 2, 1) := by decide +kernel
theorem dX1_markOfPlain_5 : decode cX1_markOfPlain 5 = .ok (.if_icmp .ne 12, 3) := by decide +kernel
theorem dX1_markOfPlain_8 : decode cX1_markOfPlain 8 = .ok (.aload_n 0, 1) := by decide +kernel
theorem dX1_markOfPlain_9 : decode cX1_markOfPlain 9 = .ok (.bipush 24, 2) := by decide +kernel
theorem dX1_markOfPlain_11 : decode cX1_markOfPlain 11 = .ok (.invokevirtual 61, 3) := by decide +kernel
theorem dX1_markOfPlain_14 : decode cX1_markOfPlain 14 = .ok (.goto 17, 3) := by decide +kernel
theorem dX1_markOfPlain_17 : decode cX1_markOfPlain 17 = .ok (.aload_n 0, 1) := by decide +kernel
theorem dX1_markOfPlain_18 : decode cX1_markOfPlain 18 = .ok (.getfield 24, 3) := by decide +kernel
theorem dX1_markOfPlain_21 : decode cX1_markOfPlain 21 = .ok (.iconst 3, 1) := by decide +kernel
theorem dX1_markOfPlain_22 : decode cX1_markOfPlain 22 = .ok (.if_icmp .ne 9, 3) := by decide +kernel
theorem dX1_markOfPlain_25 : decode cX1_markOfPlain 25 = .ok (.aload_n 0, 1) := by decide +kernel
theorem dX1_markOfPlain_26 : decode cX1_markOfPlain 26 = .ok (.bipush 22, 2) := by decide +kernel
theorem dX1_markOfPlain_28 : decode cX1_markOfPlain 28 = .ok (.invokevirtual 61, 3) := by decide +kernel
theorem dX1_markOfPlain_31 : decode cX1_markOfPlain 31 = .ok (.aload_n 0, 1) := by decide +kernel
theorem dX1_markOfPlain_32 : decode cX1_markOfPlain 32 = .ok (.bipush 21, 2) := by decide +kernel
theorem dX1_markOfPlain_34 : decode cX1_markOfPlain 34 = .ok (.invokevirtual 61, 3) := by decide +kernel
theorem dX1_markOfPlain_37 : decode cX1_markOfPlain 37 = .ok (.aload_n 0, 1) := by decide +kernel
theorem dX1_markOfPlain_38 : decode cX1_markOfPlain 38 = .ok (.bipush 20, 2) := by decide +kernel
theorem dX1_markOfPlain_40 : decode cX1_markOfPlain 40 = .ok (.invokevirtual 61, 3) := by decide +kernel
theorem dX1_markOfPlain_43 : decode cX1_markOfPlain 43 = .ok (.aload_n 0, 1) := by decide +kernel
theorem dX1_markOfPlain_44 : decode cX1_markOfPlain 44 = .ok (.getfield 27, 3) := by decide +kernel
theorem dX1_markOfPlain_47 : decode cX1_markOfPlain 47 = .ok (.aload_n 0, 1) := by decide +kernel
theorem dX1_markOfPlain_48 : decode cX1_markOfPlain 48 = .ok (.getfield 40, 3) := by decide +kernel
theorem dX1_markOfPlain_51 : decode cX1_markOfPlain 51 = .ok (.iadd, 1) := by decide +kernel
theorem dX1_markOfPlain_52 : decode cX1_markOfPlain 52 = .ok (.istore_n 1, 1) := by decide +kernel
theorem dX1_markOfPlain_53 : decode cX1_markOfPlain 53 = .ok (.aload_n 0, 1) := by decide +kernel
theorem dX1_markOfPlain_54 : decode cX1_markOfPlain 54 = .ok (.getfield 24, 3) := by decide +kernel
theorem dX1_markOfPlain_57 : decode cX1_markOfPlain 57 = .ok (.iconst 2, 1) := by decide +kernel
theorem dX1_markOfPlain_58 : decode cX1_markOfPlain 58 = .ok (.if_icmp .ne 7, 3) := by decide +kernel
theorem dX1_markOfPlain_61 : decode cX1_markOfPlain 61 = .ok (.iconst 2, 1) := by decide +kernel
theorem dX1_markOfPlain_62 : decode cX1_markOfPlain 62 = .ok (.iload_n 1, 1) := by decide +kernel
theorem dX1_markOfPlain_63 : decode cX1_markOfPlain 63 = .ok (.imul, 1) := by decide +kernel
theorem dX1_markOfPlain_64 : decode cX1_markOfPlain 64 = .ok (.ireturn, 1) := by decide +kernel
theorem dX1_markOfPlain_65 : decode cX1_markOfPlain 65 = .ok (.aload_n 0, 1) := by decide +kernel
theorem dX1_markOfPlain_66 : decode cX1_markOfPlain 66 = .ok (.getfield 24, 3) := by decide +kernel
theorem dX1_markOfPlain_69 : decode cX1_markOfPlain 69 = .ok (.iconst 3, 1) := by decide +kernel
theorem dX1_markOfPlain_70 : decode cX1_markOfPlain 70 = .ok (.if_icmp .ne 11, 3) := by decide +kernel
theorem dX1_markOfPlain_73 : decode cX1_markOfPlain 73 = .ok (.iload_n 1, 1) := by decide +kernel
theorem dX1_markOfPlain_74 : decode cX1_markOfPlain 74 = .ok (.sipush 1000, 3) := by decide +kernel
theorem dX1_markOfPlain_77 : decode cX1_markOfPlain 77 = .ok (.isub, 1) := by decide +kernel
theorem dX1_markOfPlain_78 : decode cX1_markOfPlain 78 = .ok (.goto 4, 3) := by decide +kernel
theorem dX1_markOfPlain_81 : decode cX1_markOfPlain 81 = .ok (.iload_n 1, 1) := by decide +kernel
theorem dX1_markOfPlain_82 : decode cX1_markOfPlain 82 = .ok (.ireturn, 1) := by decide +kernel
set_option maxRecDepth 20000 in
theorem ggX1_sizeOfOath_X1_enter : GoodIn wsX1_sizeOfOath wsX1_enter := goodIn_r _ [7, 8, 9, 10, 11, 12, 13, 14, 15] (by decide +kernel) (by decide +kernel)
set_option maxRecDepth 20000 in
theorem gX1_sizeOfOath_X1_enter : GoodIn wsX1_sizeOfOath (wsV RX1 61 RX1 yX1_enter wsX1_enter) := goodIn_app (goodIn_of _ (by decide +kernel)) ggX1_sizeOfOath_X1_enter
theorem dX1_sizeOfOath_0 : decode cX1_sizeOfOath 0 = .ok (.aload_n 0, 1) := by decide +kernel
theorem dX1_sizeOfOath_1 : decode cX1_sizeOfOath 1 = .ok (.getfield 24, 3) := by decide +kernel
theorem dX1_sizeOfOath_4 : decode cX1_sizeOfOath 4 = .ok (.iconst 5, 1) := by decide +kernel
theorem dX1_sizeOfOath_5 : decode cX1_sizeOfOath 5 = .ok (.if_icmp .ne 9, 3) := by decide +kernel
theorem dX1_sizeOfOath_8 : decode cX1_sizeOfOath 8 = .ok (.aload_n 0, 1) := by decide +kernel
theorem dX1_sizeOfOath_9 : decode cX1_sizeOfOath 9 = .ok (.bipush 14, 2) := by decide +kernel
theorem dX1_sizeOfOath_11 : decode cX1_sizeOfOath 11 = .ok (.invokevirtual 61, 3) := by decide +kernel
theorem dX1_sizeOfOath_14 : decode cX1_sizeOfOath 14 = .ok (.aload_n 0, 1) := by decide +kernel
theorem dX1_sizeOfOath_15 : decode cX1_sizeOfOath 15 = .ok (.bipush 13, 2) := by decide +kernel
theorem dX1_sizeOfOath_17 : decode cX1_sizeOfOath 17 = .ok (.invokevirtual 61, 3) := by decide +kernel
theorem dX1_sizeOfOath_20 : decode cX1_sizeOfOath 20 = .ok (.aload_n 0, 1) := by decide +kernel
theorem dX1_sizeOfOath_21 : decode cX1_sizeOfOath 21 = .ok (.bipush 10, 2) := by decide +kernel
theorem dX1_sizeOfOath_23 : decode cX1_sizeOfOath 23 = .ok (.invokevirtual 61, 3) := by decide +kernel
theorem dX1_sizeOfOath_26 : decode cX1_sizeOfOath 26 = .ok (.aload_n 0, 1) := by decide +kernel
theorem dX1_sizeOfOath_27 : decode cX1_sizeOfOath 27 = .ok (.getfield 33, 3) := by decide +kernel
theorem dX1_sizeOfOath_30 : decode cX1_sizeOfOath 30 = .ok (.bipush 100, 2) := by decide +kernel
theorem dX1_sizeOfOath_32 : decode cX1_sizeOfOath 32 = .ok (.isub, 1) := by decide +kernel
theorem dX1_sizeOfOath_33 : decode cX1_sizeOfOath 33 = .ok (.istore_n 1, 1) := by decide +kernel
theorem dX1_sizeOfOath_34 : decode cX1_sizeOfOath 34 = .ok (.aload_n 0, 1) := by decide +kernel
theorem dX1_sizeOfOath_35 : decode cX1_sizeOfOath 35 = .ok (.getfield 24, 3) := by decide +kernel
theorem dX1_sizeOfOath_38 : decode cX1_sizeOfOath 38 = .ok (.iconst 5, 1) := by decide +kernel
theorem dX1_sizeOfOath_39 : decode cX1_sizeOfOath 39 = .ok (.if_icmp .ne 9, 3) := by decide +kernel
theorem dX1_sizeOfOath_42 : decode cX1_sizeOfOath 42 = .ok (.iconst 2, 1) := by decide +kernel
theorem dX1_sizeOfOath_43 : decode cX1_sizeOfOath 43 = .ok (.iload_n 1, 1) := by decide +kernel
theorem dX1_sizeOfOath_44 : decode cX1_sizeOfOath 44 = .ok (.imul, 1) := by decide +kernel
theorem dX1_sizeOfOath_45 : decode cX1_sizeOfOath 45 = .ok (.goto 4, 3) := by decide +kernel
theorem dX1_sizeOfOath_48 : decode cX1_sizeOfOath 48 = .ok (.iload_n 1, 1) := by decide +kernel
theorem dX1_sizeOfOath_49 : decode cX1_sizeOfOath 49 = .ok (.ireturn, 1) := by decide +kernel
set_option maxRecDepth 20000 in
theorem ggX1_markOfOath_X1_enter : GoodIn wsX1_markOfOath wsX1_enter := goodIn_r _ [6, 7, 8, 15, 16, 17, 18, 19, 20] (by decide +kernel) (by decide +kernel)
set_option maxRecDepth 20000 in
theorem gX1_markOfOath_X1_enter : GoodIn wsX1_markOfOath (wsV RX1 61 RX1 yX1_enter wsX1_enter) := goodIn_app (goodIn_of _ (by decide +kernel)) ggX1_markOfOath_X1_enter
set_option maxRecDepth 20000 in
theorem ggX1_markOfOath_X1_sizeOfOath : GoodIn wsX1_markOfOath wsX1_sizeOfOath := goodIn_r _ [12, 13, 14, 2, 3, 4, 5, 6, 7, 8, 15, 16, 17, 18, 19, 20] (by decide +kernel) (by decide +kernel)
set_option maxRecDepth 20000 in
theorem gX1_markOfOath_X1_sizeOfOath : GoodIn wsX1_markOfOath (wsV RX1 48 RX1 yX1_sizeOfOath wsX1_sizeOfOath) := goodIn_app (goodIn_of _ (by decide +kernel)) ggX1_markOfOath_X1_sizeOfOath
theorem dX1_markOfOath_0 : decode cX1_markOfOath 0 = .ok (.aload_n 0, 1) := by decide +kernel
theorem dX1_markOfOath_1 : decode cX1_markOfOath 1 = .ok (.bipush 23, 2) := by decide +kernel
theorem dX1_markOfOath_3 : decode cX1_markOfOath 3 = .ok (.invokevirtual 61, 3) := by decide +kernel
theorem dX1_markOfOath_6 : decode cX1_markOfOath 6 = .ok (.aload_n 0, 1) := by decide +kernel
theorem dX1_markOfOath_7 : decode cX1_markOfOath 7 = .ok (.bipush 20, 2) := by decide +kernel
theorem dX1_markOfOath_9 : decode cX1_markOfOath 9 = .ok (.invokevirtual 61, 3) := by decide +kernel
theorem dX1_markOfOath_12 : decode cX1_markOfOath 12 = .ok (.aload_n 0, 1) := by decide +kernel
theorem dX1_markOfOath_13 : decode cX1_markOfOath 13 = .ok (.getfield 27, 3) := by decide +kernel
theorem dX1_markOfOath_16 : decode cX1_markOfOath 16 = .ok (.aload_n 0, 1) := by decide +kernel
theorem dX1_markOfOath_17 : decode cX1_markOfOath 17 = .ok (.invokevirtual 48, 3) := by decide +kernel
theorem dX1_markOfOath_20 : decode cX1_markOfOath 20 = .ok (.isub, 1) := by decide +kernel
theorem dX1_markOfOath_21 : decode cX1_markOfOath 21 = .ok (.ireturn, 1) := by decide +kernel
theorem dX2_init_0 : decode cX2_init 0 = .ok (.aload_n 0, 1) := by decide +kernel
theorem dX2_init_1 : decode cX2_init 1 = .ok (.invokespecial 3, 3) := by decide +kernel
theorem dX2_init_4 : decode cX2_init 4 = .ok (.aload_n 0, 1) := by decide +kernel
theorem dX2_init_5 : decode cX2_init 5 = .ok (.bipush 8, 2) := by decide +kernel
theorem dX2_init_7 : decode cX2_init 7 = .ok (.newarray .int, 2) := by decide +kernel
theorem dX2_init_9 : decode cX2_init 9 = .ok (.putfield 9, 3) := by decide +kernel
theorem dX2_init_12 : decode cX2_init 12 = .ok (.aload_n 0, 1) := by decide +kernel
theorem dX2_init_13 : decode cX2_init 13 = .ok (.bipush 8, 2) := by decide +kernel
theorem dX2_init_15 : decode cX2_init 15 = .ok (.newarray .int, 2) := by decide +kernel
theorem dX2_init_17 : decode cX2_init 17 = .ok (.putfield 15, 3) := by decide +kernel
theorem dX2_init_20 : decode cX2_init 20 = .ok (.return_, 1) := by decide +kernel
set_option maxRecDepth 20000 in
theorem ggX2_lookAt_X4_weightAfter : GoodIn wsX2_lookAt wsX4_weightAfter := goodIn_r _ [15, 16, 17, 18, 19, 20, 14, 21, 22, 23, 24, 25, 26, 27, 28, 29, 30, 31, 32, 33, 34, 35, 36, 44, 45, 46, 47, 48, 49, 50, 51, 52, 53, 54, 55, 56] (by decide +kernel) (by decide +kernel)
set_option maxRecDepth 20000 in
theorem gX2_lookAt_X4_weightAfter : GoodIn wsX2_lookAt (wsV RX2 39 RX4 yX4_weightAfter wsX4_weightAfter) := goodIn_app (goodIn_of _ (by decide +kernel)) ggX2_lookAt_X4_weightAfter
set_option maxRecDepth 20000 in
theorem ggX2_lookAt_X4_isSettled : GoodIn wsX2_lookAt wsX4_isSettled := goodIn_r _ [21, 16, 44, 45, 46, 47, 48, 49, 50, 51, 52, 53, 54, 55, 56] (by decide +kernel) (by decide +kernel)
set_option maxRecDepth 20000 in
theorem gX2_lookAt_X4_isSettled : GoodIn wsX2_lookAt (wsV RX2 43 RX4 yX4_isSettled wsX4_isSettled) := goodIn_app (goodIn_of _ (by decide +kernel)) ggX2_lookAt_X4_isSettled
set_option maxRecDepth 20000 in
theorem ggX2_lookAt_X4_doClash : GoodIn wsX2_lookAt wsX4_doClash := goodIn_r _ [41, 27, 42, 43, 18, 19, 20, 14, 21, 16, 44, 45, 46, 47, 48, 49, 50, 51, 52, 53, 54, 55, 56] (by decide +kernel) (by decide +kernel)
set_option maxRecDepth 20000 in
theorem gX2_lookAt_X4_doClash : GoodIn wsX2_lookAt (wsV RX2 47 RX4 yX4_doClash wsX4_doClash) := goodIn_app (goodIn_of _ (by decide +kernel)) ggX2_lookAt_X4_doClash
theorem dX2_lookAt_0 : decode cX2_lookAt 0 = .ok (.aload_n 0, 1) := by decide +kernel
theorem dX2_lookAt_1 : decode cX2_lookAt 1 = .ok (.aload_n 1, 1) := by decide +kernel
theorem dX2_lookAt_2 : decode cX2_lookAt 2 = .ok (.getfield 18, 3) := by decide +kernel
theorem dX2_lookAt_5 : decode cX2_lookAt 5 = .ok (.putfield 24, 3) := by decide +kernel
theorem dX2_lookAt_8 : decode cX2_lookAt 8 = .ok (.aload_n 0, 1) := by decide +kernel
theorem dX2_lookAt_9 : decode cX2_lookAt 9 = .ok (.iconst 1, 1) := by decide +kernel
theorem dX2_lookAt_10 : decode cX2_lookAt 10 = .ok (.aload_n 0, 1) := by decide +kernel
theorem dX2_lookAt_11 : decode cX2_lookAt 11 = .ok (.getfield 24, 3) := by decide +kernel
theorem dX2_lookAt_14 : decode cX2_lookAt 14 = .ok (.ishl, 1) := by decide +kernel
theorem dX2_lookAt_15 : decode cX2_lookAt 15 = .ok (.putfield 25, 3) := by decide +kernel
theorem dX2_lookAt_18 : decode cX2_lookAt 18 = .ok (.aload_n 0, 1) := by decide +kernel
theorem dX2_lookAt_19 : decode cX2_lookAt 19 = .ok (.aload_n 1, 1) := by decide +kernel
theorem dX2_lookAt_20 : decode cX2_lookAt 20 = .ok (.getfield 28, 3) := by decide +kernel
theorem dX2_lookAt_23 : decode cX2_lookAt 23 = .ok (.putfield 31, 3) := by decide +kernel
theorem dX2_lookAt_26 : decode cX2_lookAt 26 = .ok (.aload_n 0, 1) := by decide +kernel
theorem dX2_lookAt_27 : decode cX2_lookAt 27 = .ok (.aload_n 1, 1) := by decide +kernel
theorem dX2_lookAt_28 : decode cX2_lookAt 28 = .ok (.getfield 32, 3) := by decide +kernel
theorem dX2_lookAt_31 : decode cX2_lookAt 31 = .ok (.putfield 35, 3) := by decide +kernel
theorem dX2_lookAt_34 : decode cX2_lookAt 34 = .ok (.aload_n 0, 1) := by decide +kernel
theorem dX2_lookAt_35 : decode cX2_lookAt 35 = .ok (.iconst 0, 1) := by decide +kernel
theorem dX2_lookAt_36 : decode cX2_lookAt 36 = .ok (.putfield 36, 3) := by decide +kernel
theorem dX2_lookAt_39 : decode cX2_lookAt 39 = .ok (.iconst 0, 1) := by decide +kernel
theorem dX2_lookAt_40 : decode cX2_lookAt 40 = .ok (.istore_n 2, 1) := by decide +kernel
theorem dX2_lookAt_41 : decode cX2_lookAt 41 = .ok (.iconst 0, 1) := by decide +kernel
theorem dX2_lookAt_42 : decode cX2_lookAt 42 = .ok (.istore_n 3, 1) := by decide +kernel
theorem dX2_lookAt_43 : decode cX2_lookAt 43 = .ok (.iload_n 3, 1) := by decide +kernel
theorem dX2_lookAt_44 : decode cX2_lookAt 44 = .ok (.aload_n 0, 1) := by decide +kernel
theorem dX2_lookAt_45 : decode cX2_lookAt 45 = .ok (.getfield 24, 3) := by decide +kernel
theorem dX2_lookAt_48 : decode cX2_lookAt 48 = .ok (.if_icmp .ge 99, 3) := by decide +kernel
theorem dX2_lookAt_51 : decode cX2_lookAt 51 = .ok (.aload_n 1, 1) := by decide +kernel
theorem dX2_lookAt_52 : decode cX2_lookAt 52 = .ok (.iload_n 3, 1) := by decide +kernel
theorem dX2_lookAt_53 : decode cX2_lookAt 53 = .ok (.iload_n 2, 1) := by decide +kernel
theorem dX2_lookAt_54 : decode cX2_lookAt 54 = .ok (.invokevirtual 39, 3) := by decide +kernel
theorem dX2_lookAt_57 : decode cX2_lookAt 57 = .ok (.istore_n 2, 1) := by decide +kernel
theorem dX2_lookAt_58 : decode cX2_lookAt 58 = .ok (.aload_n 0, 1) := by decide +kernel
theorem dX2_lookAt_59 : decode cX2_lookAt 59 = .ok (.getfield 9, 3) := by decide +kernel
theorem dX2_lookAt_62 : decode cX2_lookAt 62 = .ok (.iload_n 3, 1) := by decide +kernel
theorem dX2_lookAt_63 : decode cX2_lookAt 63 = .ok (.iload_n 2, 1) := by decide +kernel
theorem dX2_lookAt_64 : decode cX2_lookAt 64 = .ok (.iastore, 1) := by decide +kernel
theorem dX2_lookAt_65 : decode cX2_lookAt 65 = .ok (.aload_n 0, 1) := by decide +kernel
theorem dX2_lookAt_66 : decode cX2_lookAt 66 = .ok (.dup, 1) := by decide +kernel
theorem dX2_lookAt_67 : decode cX2_lookAt 67 = .ok (.getfield 36, 3) := by decide +kernel
theorem dX2_lookAt_70 : decode cX2_lookAt 70 = .ok (.aload_n 1, 1) := by decide +kernel
theorem dX2_lookAt_71 : decode cX2_lookAt 71 = .ok (.iload_n 3, 1) := by decide +kernel
theorem dX2_lookAt_72 : decode cX2_lookAt 72 = .ok (.invokevirtual 43, 3) := by decide +kernel
theorem dX2_lookAt_75 : decode cX2_lookAt 75 = .ok (.ifCond .eq 9, 3) := by decide +kernel
theorem dX2_lookAt_78 : decode cX2_lookAt 78 = .ok (.iconst 1, 1) := by decide +kernel
theorem dX2_lookAt_79 : decode cX2_lookAt 79 = .ok (.iload_n 3, 1) := by decide +kernel
theorem dX2_lookAt_80 : decode cX2_lookAt 80 = .ok (.ishl, 1) := by decide +kernel
theorem dX2_lookAt_81 : decode cX2_lookAt 81 = .ok (.goto 4, 3) := by decide +kernel
theorem dX2_lookAt_84 : decode cX2_lookAt 84 = .ok (.iconst 0, 1) := by decide +kernel
theorem dX2_lookAt_85 : decode cX2_lookAt 85 = .ok (.ior, 1) := by decide +kernel
theorem dX2_lookAt_86 : decode cX2_lookAt 86 = .ok (.putfield 36, 3) := by decide +kernel
theorem dX2_lookAt_89 : decode cX2_lookAt 89 = .ok (.aload_n 0, 1) := by decide +kernel
theorem dX2_lookAt_90 : decode cX2_lookAt 90 = .ok (.getfield 15, 3) := by decide +kernel
theorem dX2_lookAt_93 : decode cX2_lookAt 93 = .ok (.iload_n 3, 1) := by decide +kernel
theorem dX2_lookAt_94 : decode cX2_lookAt 94 = .ok (.iconst 0, 1) := by decide +kernel
theorem dX2_lookAt_95 : decode cX2_lookAt 95 = .ok (.iastore, 1) := by decide +kernel
theorem dX2_lookAt_96 : decode cX2_lookAt 96 = .ok (.iconst 0, 1) := by decide +kernel
theorem dX2_lookAt_97 : decode cX2_lookAt 97 = .ok (.istore 4, 2) := by decide +kernel
theorem dX2_lookAt_99 : decode cX2_lookAt 99 = .ok (.iload 4, 2) := by decide +kernel
theorem dX2_lookAt_101 : decode cX2_lookAt 101 = .ok (.aload_n 0, 1) := by decide +kernel
theorem dX2_lookAt_102 : decode cX2_lookAt 102 = .ok (.getfield 24, 3) := by decide +kernel
theorem dX2_lookAt_105 : decode cX2_lookAt 105 = .ok (.if_icmp .ge 36, 3) := by decide +kernel
theorem dX2_lookAt_108 : decode cX2_lookAt 108 = .ok (.aload_n 0, 1) := by decide +kernel
theorem dX2_lookAt_109 : decode cX2_lookAt 109 = .ok (.getfield 15, 3) := by decide +kernel
theorem dX2_lookAt_112 : decode cX2_lookAt 112 = .ok (.iload_n 3, 1) := by decide +kernel
theorem dX2_lookAt_113 : decode cX2_lookAt 113 = .ok (.dup2, 1) := by decide +kernel
theorem dX2_lookAt_114 : decode cX2_lookAt 114 = .ok (.iaload, 1) := by decide +kernel
theorem dX2_lookAt_115 : decode cX2_lookAt 115 = .ok (.aload_n 1, 1) := by decide +kernel
theorem dX2_lookAt_116 : decode cX2_lookAt 116 = .ok (.iload_n 3, 1) := by decide +kernel
theorem dX2_lookAt_117 : decode cX2_lookAt 117 = .ok (.iload 4, 2) := by decide +kernel
theorem dX2_lookAt_119 : decode cX2_lookAt 119 = .ok (.invokevirtual 47, 3) := by decide +kernel
theorem dX2_lookAt_122 : decode cX2_lookAt 122 = .ok (.ifCond .eq 10, 3) := by decide +kernel
theorem dX2_lookAt_125 : decode cX2_lookAt 125 = .ok (.iconst 1, 1) := by decide +kernel
theorem dX2_lookAt_126 : decode cX2_lookAt 126 = .ok (.iload 4, 2) := by decide +kernel
theorem dX2_lookAt_128 : decode cX2_lookAt 128 = .ok (.ishl, 1) := by decide +kernel
theorem dX2_lookAt_129 : decode cX2_lookAt 129 = .ok (.goto 4, 3) := by decide +kernel
theorem dX2_lookAt_132 : decode cX2_lookAt 132 = .ok (.iconst 0, 1) := by decide +kernel
theorem dX2_lookAt_133 : decode cX2_lookAt 133 = .ok (.ior, 1) := by decide +kernel
theorem dX2_lookAt_134 : decode cX2_lookAt 134 = .ok (.iastore, 1) := by decide +kernel
theorem dX2_lookAt_135 : decode cX2_lookAt 135 = .ok (.iinc 4 1, 3) := by decide +kernel
theorem dX2_lookAt_138 : decode cX2_lookAt 138 = .ok (.goto (-39), 3) := by decide +kernel
theorem dX2_lookAt_141 : decode cX2_lookAt 141 = .ok (.iinc 3 1, 3) := by decide +kernel
theorem dX2_lookAt_144 : decode cX2_lookAt 144 = .ok (.goto (-101), 3) := by decide +kernel
theorem dX2_lookAt_147 : decode cX2_lookAt 147 = .ok (.return_, 1) := by decide +kernel
theorem dX2_weightOf_0 : decode cX2_weightOf 0 = .ok (.iconst 0, 1) := by decide +kernel
theorem dX2_weightOf_1 : decode cX2_weightOf 1 = .ok (.istore_n 2, 1) := by decide +kernel
theorem dX2_weightOf_2 : decode cX2_weightOf 2 = .ok (.iconst 0, 1) := by decide +kernel
theorem dX2_weightOf_3 : decode cX2_weightOf 3 = .ok (.istore_n 3, 1) := by decide +kernel
theorem dX2_weightOf_4 : decode cX2_weightOf 4 = .ok (.iload_n 3, 1) := by decide +kernel
theorem dX2_weightOf_5 : decode cX2_weightOf 5 = .ok (.aload_n 0, 1) := by decide +kernel
theorem dX2_weightOf_6 : decode cX2_weightOf 6 = .ok (.getfield 24, 3) := by decide +kernel
theorem dX2_weightOf_9 : decode cX2_weightOf 9 = .ok (.if_icmp .ge 31, 3) := by decide +kernel
theorem dX2_weightOf_12 : decode cX2_weightOf 12 = .ok (.iload_n 2, 1) := by decide +kernel
theorem dX2_weightOf_13 : decode cX2_weightOf 13 = .ok (.iload_n 1, 1) := by decide +kernel
theorem dX2_weightOf_14 : decode cX2_weightOf 14 = .ok (.iload_n 3, 1) := by decide +kernel
theorem dX2_weightOf_15 : decode cX2_weightOf 15 = .ok (.ishr, 1) := by decide +kernel
theorem dX2_weightOf_16 : decode cX2_weightOf 16 = .ok (.iconst 1, 1) := by decide +kernel
theorem dX2_weightOf_17 : decode cX2_weightOf 17 = .ok (.iand, 1) := by decide +kernel
theorem dX2_weightOf_18 : decode cX2_weightOf 18 = .ok (.iconst 1, 1) := by decide +kernel
theorem dX2_weightOf_19 : decode cX2_weightOf 19 = .ok (.if_icmp .ne 12, 3) := by decide +kernel
theorem dX2_weightOf_22 : decode cX2_weightOf 22 = .ok (.aload_n 0, 1) := by decide +kernel
theorem dX2_weightOf_23 : decode cX2_weightOf 23 = .ok (.getfield 9, 3) := by decide +kernel
theorem dX2_weightOf_26 : decode cX2_weightOf 26 = .ok (.iload_n 3, 1) := by decide +kernel
theorem dX2_weightOf_27 : decode cX2_weightOf 27 = .ok (.iaload, 1) := by decide +kernel
theorem dX2_weightOf_28 : decode cX2_weightOf 28 = .ok (.goto 4, 3) := by decide +kernel
theorem dX2_weightOf_31 : decode cX2_weightOf 31 = .ok (.iconst 0, 1) := by decide +kernel
theorem dX2_weightOf_32 : decode cX2_weightOf 32 = .ok (.iadd, 1) := by decide +kernel
theorem dX2_weightOf_33 : decode cX2_weightOf 33 = .ok (.istore_n 2, 1) := by decide +kernel
theorem dX2_weightOf_34 : decode cX2_weightOf 34 = .ok (.iinc 3 1, 3) := by decide +kernel
theorem dX2_weightOf_37 : decode cX2_weightOf 37 = .ok (.goto (-33), 3) := by decide +kernel
theorem dX2_weightOf_40 : decode cX2_weightOf 40 = .ok (.iload_n 2, 1) := by decide +kernel
theorem dX2_weightOf_41 : decode cX2_weightOf 41 = .ok (.ireturn, 1) := by decide +kernel
set_option maxRecDepth 20000 in
theorem ggX2_readingOf_X2_weightOf : GoodIn wsX2_readingOf wsX2_weightOf := goodIn_r _ [7, 8, 9, 13, 14, 15, 16, 17, 18, 19] (by decide +kernel) (by decide +kernel)
set_option maxRecDepth 20000 in
theorem gX2_readingOf_X2_weightOf : GoodIn wsX2_readingOf (wsV RX2 51 RX2 yX2_weightOf wsX2_weightOf) := goodIn_app (goodIn_of _ (by decide +kernel)) ggX2_readingOf_X2_weightOf
set_option maxRecDepth 20000 in
theorem ggX2_readingOf_X6_reading : GoodIn wsX2_readingOf wsX6_reading := goodIn_r _ [12] (by decide +kernel) (by decide +kernel)
set_option maxRecDepth 20000 in
theorem gX2_readingOf_X6_reading_n55 : GoodIn wsX2_readingOf (wsX6_reading) := ggX2_readingOf_X6_reading
theorem dX2_readingOf_0 : decode cX2_readingOf 0 = .ok (.aload_n 0, 1) := by decide +kernel
theorem dX2_readingOf_1 : decode cX2_readingOf 1 = .ok (.iload_n 1, 1) := by decide +kernel
theorem dX2_readingOf_2 : decode cX2_readingOf 2 = .ok (.invokevirtual 51, 3) := by decide +kernel
theorem dX2_readingOf_5 : decode cX2_readingOf 5 = .ok (.aload_n 0, 1) := by decide +kernel
theorem dX2_readingOf_6 : decode cX2_readingOf 6 = .ok (.getfield 31, 3) := by decide +kernel
theorem dX2_readingOf_9 : decode cX2_readingOf 9 = .ok (.iadd, 1) := by decide +kernel
theorem dX2_readingOf_10 : decode cX2_readingOf 10 = .ok (.aload_n 0, 1) := by decide +kernel
theorem dX2_readingOf_11 : decode cX2_readingOf 11 = .ok (.getfield 35, 3) := by decide +kernel
theorem dX2_readingOf_14 : decode cX2_readingOf 14 = .ok (.invokestatic 55, 3) := by decide +kernel
theorem dX2_readingOf_17 : decode cX2_readingOf 17 = .ok (.ireturn, 1) := by decide +kernel
theorem dX2_isBag_0 : decode cX2_isBag 0 = .ok (.iload_n 1, 1) := by decide +kernel
theorem dX2_isBag_1 : decode cX2_isBag 1 = .ok (.aload_n 0, 1) := by decide +kernel
theorem dX2_isBag_2 : decode cX2_isBag 2 = .ok (.getfield 36, 3) := by decide +kernel
theorem dX2_isBag_5 : decode cX2_isBag 5 = .ok (.iand, 1) := by decide +kernel
theorem dX2_isBag_6 : decode cX2_isBag 6 = .ok (.ifCond .eq 5, 3) := by decide +kernel
theorem dX2_isBag_9 : decode cX2_isBag 9 = .ok (.iconst 0, 1) := by decide +kernel
theorem dX2_isBag_10 : decode cX2_isBag 10 = .ok (.ireturn, 1) := by decide +kernel
theorem dX2_isBag_11 : decode cX2_isBag 11 = .ok (.iconst 0, 1) := by decide +kernel
theorem dX2_isBag_12 : decode cX2_isBag 12 = .ok (.istore_n 2, 1) := by decide +kernel
theorem dX2_isBag_13 : decode cX2_isBag 13 = .ok (.iload_n 2, 1) := by decide +kernel
theorem dX2_isBag_14 : decode cX2_isBag 14 = .ok (.aload_n 0, 1) := by decide +kernel
theorem dX2_isBag_15 : decode cX2_isBag 15 = .ok (.getfield 24, 3) := by decide +kernel
theorem dX2_isBag_18 : decode cX2_isBag 18 = .ok (.if_icmp .ge 31, 3) := by decide +kernel
theorem dX2_isBag_21 : decode cX2_isBag 21 = .ok (.iload_n 1, 1) := by decide +kernel
theorem dX2_isBag_22 : decode cX2_isBag 22 = .ok (.iload_n 2, 1) := by decide +kernel
theorem dX2_isBag_23 : decode cX2_isBag 23 = .ok (.ishr, 1) := by decide +kernel
theorem dX2_isBag_24 : decode cX2_isBag 24 = .ok (.iconst 1, 1) := by decide +kernel
theorem dX2_isBag_25 : decode cX2_isBag 25 = .ok (.iand, 1) := by decide +kernel
theorem dX2_isBag_26 : decode cX2_isBag 26 = .ok (.iconst 1, 1) := by decide +kernel
theorem dX2_isBag_27 : decode cX2_isBag 27 = .ok (.if_icmp .ne 16, 3) := by decide +kernel
theorem dX2_isBag_30 : decode cX2_isBag 30 = .ok (.iload_n 1, 1) := by decide +kernel
theorem dX2_isBag_31 : decode cX2_isBag 31 = .ok (.aload_n 0, 1) := by decide +kernel
theorem dX2_isBag_32 : decode cX2_isBag 32 = .ok (.getfield 15, 3) := by decide +kernel
theorem dX2_isBag_35 : decode cX2_isBag 35 = .ok (.iload_n 2, 1) := by decide +kernel
theorem dX2_isBag_36 : decode cX2_isBag 36 = .ok (.iaload, 1) := by decide +kernel
theorem dX2_isBag_37 : decode cX2_isBag 37 = .ok (.iand, 1) := by decide +kernel
theorem dX2_isBag_38 : decode cX2_isBag 38 = .ok (.ifCond .eq 5, 3) := by decide +kernel
theorem dX2_isBag_41 : decode cX2_isBag 41 = .ok (.iconst 0, 1) := by decide +kernel
theorem dX2_isBag_42 : decode cX2_isBag 42 = .ok (.ireturn, 1) := by decide +kernel
theorem dX2_isBag_43 : decode cX2_isBag 43 = .ok (.iinc 2 1, 3) := by decide +kernel
theorem dX2_isBag_46 : decode cX2_isBag 46 = .ok (.goto (-33), 3) := by decide +kernel
theorem dX2_isBag_49 : decode cX2_isBag 49 = .ok (.iconst 1, 1) := by decide +kernel
theorem dX2_isBag_50 : decode cX2_isBag 50 = .ok (.ireturn, 1) := by decide +kernel
set_option maxRecDepth 20000 in
theorem ggX2_howManyReading_X2_isBag : GoodIn wsX2_howManyReading wsX2_isBag := goodIn_r _ [6, 7, 8, 9, 24, 25, 26, 27, 28, 29, 30] (by decide +kernel) (by decide +kernel)
set_option maxRecDepth 20000 in
theorem gX2_howManyReading_X2_isBag : GoodIn wsX2_howManyReading (wsV RX2 58 RX2 yX2_isBag wsX2_isBag) := goodIn_app (goodIn_of _ (by decide +kernel)) ggX2_howManyReading_X2_isBag
set_option maxRecDepth 20000 in
theorem ggX2_howManyReading_X2_readingOf : GoodIn wsX2_howManyReading wsX2_readingOf := goodIn_r _ [13, 14, 15, 16, 17, 18, 5, 19, 8, 20, 21, 22, 23, 24, 25, 26, 27, 28, 29, 30] (by decide +kernel) (by decide +kernel)
set_option maxRecDepth 20000 in
theorem gX2_howManyReading_X2_readingOf : GoodIn wsX2_howManyReading (wsV RX2 61 RX2 yX2_readingOf wsX2_readingOf) := goodIn_app (goodIn_of _ (by decide +kernel)) ggX2_howManyReading_X2_readingOf
theorem dX2_howManyReading_0 : decode cX2_howManyReading 0 = .ok (.iconst 0, 1) := by decide +kernel
theorem dX2_howManyReading_1 : decode cX2_howManyReading 1 = .ok (.istore_n 2, 1) := by decide +kernel
theorem dX2_howManyReading_2 : decode cX2_howManyReading 2 = .ok (.iconst 0, 1) := by decide +kernel
theorem dX2_howManyReading_3 : decode cX2_howManyReading 3 = .ok (.istore_n 3, 1) := by decide +kernel
theorem dX2_howManyReading_4 : decode cX2_howManyReading 4 = .ok (.iload_n 3, 1) := by decide +kernel
theorem dX2_howManyReading_5 : decode cX2_howManyReading 5 = .ok (.aload_n 0, 1) := by decide +kernel
theorem dX2_howManyReading_6 : decode cX2_howManyReading 6 = .ok (.getfield 25, 3) := by decide +kernel
theorem dX2_howManyReading_9 : decode cX2_howManyReading 9 = .ok (.if_icmp .ge 34, 3) := by decide +kernel
theorem dX2_howManyReading_12 : decode cX2_howManyReading 12 = .ok (.iload_n 2, 1) := by decide +kernel
theorem dX2_howManyReading_13 : decode cX2_howManyReading 13 = .ok (.aload_n 0, 1) := by decide +kernel
theorem dX2_howManyReading_14 : decode cX2_howManyReading 14 = .ok (.iload_n 3, 1) := by decide +kernel
theorem dX2_howManyReading_15 : decode cX2_howManyReading 15 = .ok (.invokevirtual 58, 3) := by decide +kernel
theorem dX2_howManyReading_18 : decode cX2_howManyReading 18 = .ok (.ifCond .eq 16, 3) := by decide +kernel
theorem dX2_howManyReading_21 : decode cX2_howManyReading 21 = .ok (.aload_n 0, 1) := by decide +kernel
theorem dX2_howManyReading_22 : decode cX2_howManyReading 22 = .ok (.iload_n 3, 1) := by decide +kernel
theorem dX2_howManyReading_23 : decode cX2_howManyReading 23 = .ok (.invokevirtual 61, 3) := by decide +kernel
theorem dX2_howManyReading_26 : decode cX2_howManyReading 26 = .ok (.iload_n 1, 1) := by decide +kernel
theorem dX2_howManyReading_27 : decode cX2_howManyReading 27 = .ok (.if_icmp .ne 7, 3) := by decide +kernel
theorem dX2_howManyReading_30 : decode cX2_howManyReading 30 = .ok (.iconst 1, 1) := by decide +kernel
theorem dX2_howManyReading_31 : decode cX2_howManyReading 31 = .ok (.goto 4, 3) := by decide +kernel
theorem dX2_howManyReading_34 : decode cX2_howManyReading 34 = .ok (.iconst 0, 1) := by decide +kernel
theorem dX2_howManyReading_35 : decode cX2_howManyReading 35 = .ok (.iadd, 1) := by decide +kernel
theorem dX2_howManyReading_36 : decode cX2_howManyReading 36 = .ok (.istore_n 2, 1) := by decide +kernel
theorem dX2_howManyReading_37 : decode cX2_howManyReading 37 = .ok (.iinc 3 1, 3) := by decide +kernel
theorem dX2_howManyReading_40 : decode cX2_howManyReading 40 = .ok (.goto (-36), 3) := by decide +kernel
theorem dX2_howManyReading_43 : decode cX2_howManyReading 43 = .ok (.iload_n 2, 1) := by decide +kernel
theorem dX2_howManyReading_44 : decode cX2_howManyReading 44 = .ok (.ireturn, 1) := by decide +kernel
set_option maxRecDepth 20000 in
theorem ggX2_fewestReading_J6_bitCount_0f7a4 : GoodIn wsX2_fewestReading wsJ6_bitCount_0f7a4 := goodIn_r _ [6, 7, 8, 9] (by decide +kernel) (by decide +kernel)
set_option maxRecDepth 20000 in
theorem gX2_fewestReading_J6_bitCount_0f7a4 : GoodIn wsX2_fewestReading (va_wsS RX2 65 yJ6_bitCount_0f7a4 wsJ6_bitCount_0f7a4) := goodIn_app (goodIn_of _ (by decide +kernel)) ggX2_fewestReading_J6_bitCount_0f7a4
set_option maxRecDepth 20000 in
theorem ggX2_fewestReading_X2_isBag : GoodIn wsX2_fewestReading wsX2_isBag := goodIn_r _ [14, 15, 16, 17, 32, 33, 34, 35, 36, 37, 38] (by decide +kernel) (by decide +kernel)
set_option maxRecDepth 20000 in
theorem gX2_fewestReading_X2_isBag : GoodIn wsX2_fewestReading (wsV RX2 58 RX2 yX2_isBag wsX2_isBag) := goodIn_app (goodIn_of _ (by decide +kernel)) ggX2_fewestReading_X2_isBag
set_option maxRecDepth 20000 in
theorem ggX2_fewestReading_X2_readingOf : GoodIn wsX2_fewestReading wsX2_readingOf := goodIn_r _ [21, 22, 23, 24, 25, 26, 13, 27, 16, 28, 29, 30, 31, 32, 33, 34, 35, 36, 37, 38] (by decide +kernel) (by decide +kernel)
set_option maxRecDepth 20000 in
theorem gX2_fewestReading_X2_readingOf : GoodIn wsX2_fewestReading (wsV RX2 61 RX2 yX2_readingOf wsX2_readingOf) := goodIn_app (goodIn_of _ (by decide +kernel)) ggX2_fewestReading_X2_readingOf
theorem dX2_fewestReading_0 : decode cX2_fewestReading 0 = .ok (.ldc 64, 2) := by decide +kernel
theorem dX2_fewestReading_2 : decode cX2_fewestReading 2 = .ok (.istore_n 2, 1) := by decide +kernel
theorem dX2_fewestReading_3 : decode cX2_fewestReading 3 = .ok (.bipush 9, 2) := by decide +kernel
theorem dX2_fewestReading_5 : decode cX2_fewestReading 5 = .ok (.istore_n 3, 1) := by decide +kernel
theorem dX2_fewestReading_6 : decode cX2_fewestReading 6 = .ok (.iconst 0, 1) := by decide +kernel
theorem dX2_fewestReading_7 : decode cX2_fewestReading 7 = .ok (.istore 4, 2) := by decide +kernel
theorem dX2_fewestReading_9 : decode cX2_fewestReading 9 = .ok (.iload 4, 2) := by decide +kernel
theorem dX2_fewestReading_11 : decode cX2_fewestReading 11 = .ok (.aload_n 0, 1) := by decide +kernel
theorem dX2_fewestReading_12 : decode cX2_fewestReading 12 = .ok (.getfield 25, 3) := by decide +kernel
theorem dX2_fewestReading_15 : decode cX2_fewestReading 15 = .ok (.if_icmp .ge 46, 3) := by decide +kernel
theorem dX2_fewestReading_18 : decode cX2_fewestReading 18 = .ok (.iload 4, 2) := by decide +kernel
theorem dX2_fewestReading_20 : decode cX2_fewestReading 20 = .ok (.invokestatic 65, 3) := by decide +kernel
theorem dX2_fewestReading_23 : decode cX2_fewestReading 23 = .ok (.iload_n 3, 1) := by decide +kernel
theorem dX2_fewestReading_24 : decode cX2_fewestReading 24 = .ok (.if_icmp .ge 31, 3) := by decide +kernel
theorem dX2_fewestReading_27 : decode cX2_fewestReading 27 = .ok (.aload_n 0, 1) := by decide +kernel
theorem dX2_fewestReading_28 : decode cX2_fewestReading 28 = .ok (.iload 4, 2) := by decide +kernel
theorem dX2_fewestReading_30 : decode cX2_fewestReading 30 = .ok (.invokevirtual 58, 3) := by decide +kernel
theorem dX2_fewestReading_33 : decode cX2_fewestReading 33 = .ok (.ifCond .eq 22, 3) := by decide +kernel
theorem dX2_fewestReading_36 : decode cX2_fewestReading 36 = .ok (.aload_n 0, 1) := by decide +kernel
theorem dX2_fewestReading_37 : decode cX2_fewestReading 37 = .ok (.iload 4, 2) := by decide +kernel
theorem dX2_fewestReading_39 : decode cX2_fewestReading 39 = .ok (.invokevirtual 61, 3) := by decide +kernel
theorem dX2_fewestReading_42 : decode cX2_fewestReading 42 = .ok (.iload_n 1, 1) := by decide +kernel
theorem dX2_fewestReading_43 : decode cX2_fewestReading 43 = .ok (.if_icmp .ne 12, 3) := by decide +kernel
theorem dX2_fewestReading_46 : decode cX2_fewestReading 46 = .ok (.iload 4, 2) := by decide +kernel
theorem dX2_fewestReading_48 : decode cX2_fewestReading 48 = .ok (.istore_n 2, 1) := by decide +kernel
theorem dX2_fewestReading_49 : decode cX2_fewestReading 49 = .ok (.iload 4, 2) := by decide +kernel
theorem dX2_fewestReading_51 : decode cX2_fewestReading 51 = .ok (.invokestatic 65, 3) := by decide +kernel
theorem dX2_fewestReading_54 : decode cX2_fewestReading 54 = .ok (.istore_n 3, 1) := by decide +kernel
theorem dX2_fewestReading_55 : decode cX2_fewestReading 55 = .ok (.iinc 4 1, 3) := by decide +kernel
theorem dX2_fewestReading_58 : decode cX2_fewestReading 58 = .ok (.goto (-49), 3) := by decide +kernel
theorem dX2_fewestReading_61 : decode cX2_fewestReading 61 = .ok (.iload_n 2, 1) := by decide +kernel
theorem dX2_fewestReading_62 : decode cX2_fewestReading 62 = .ok (.ireturn, 1) := by decide +kernel
set_option maxRecDepth 20000 in
theorem ggX2_heaviestOf_J6_bitCount_0f7a4 : GoodIn wsX2_heaviestOf wsJ6_bitCount_0f7a4 := goodIn_r _ [5, 6, 7, 8] (by decide +kernel) (by decide +kernel)
set_option maxRecDepth 20000 in
theorem gX2_heaviestOf_J6_bitCount_0f7a4 : GoodIn wsX2_heaviestOf (va_wsS RX2 65 yJ6_bitCount_0f7a4 wsJ6_bitCount_0f7a4) := goodIn_app (goodIn_of _ (by decide +kernel)) ggX2_heaviestOf_J6_bitCount_0f7a4
set_option maxRecDepth 20000 in
theorem ggX2_heaviestOf_X2_isBag : GoodIn wsX2_heaviestOf wsX2_isBag := goodIn_r _ [13, 14, 15, 16, 31, 32, 33, 34, 35, 36, 37] (by decide +kernel) (by decide +kernel)
set_option maxRecDepth 20000 in
theorem gX2_heaviestOf_X2_isBag : GoodIn wsX2_heaviestOf (wsV RX2 58 RX2 yX2_isBag wsX2_isBag) := goodIn_app (goodIn_of _ (by decide +kernel)) ggX2_heaviestOf_X2_isBag
set_option maxRecDepth 20000 in
theorem ggX2_heaviestOf_X2_readingOf : GoodIn wsX2_heaviestOf wsX2_readingOf := goodIn_r _ [20, 21, 22, 23, 24, 25, 12, 26, 15, 27, 28, 29, 30, 31, 32, 33, 34, 35, 36, 37] (by decide +kernel) (by decide +kernel)
set_option maxRecDepth 20000 in
theorem gX2_heaviestOf_X2_readingOf : GoodIn wsX2_heaviestOf (wsV RX2 61 RX2 yX2_readingOf wsX2_readingOf) := goodIn_app (goodIn_of _ (by decide +kernel)) ggX2_heaviestOf_X2_readingOf
theorem dX2_heaviestOf_0 : decode cX2_heaviestOf 0 = .ok (.iconst 0, 1) := by decide +kernel
theorem dX2_heaviestOf_1 : decode cX2_heaviestOf 1 = .ok (.istore_n 2, 1) := by decide +kernel
theorem dX2_heaviestOf_2 : decode cX2_heaviestOf 2 = .ok (.iconst 1, 1) := by decide +kernel
theorem dX2_heaviestOf_3 : decode cX2_heaviestOf 3 = .ok (.istore_n 3, 1) := by decide +kernel
theorem dX2_heaviestOf_4 : decode cX2_heaviestOf 4 = .ok (.iload_n 3, 1) := by decide +kernel
theorem dX2_heaviestOf_5 : decode cX2_heaviestOf 5 = .ok (.aload_n 0, 1) := by decide +kernel
theorem dX2_heaviestOf_6 : decode cX2_heaviestOf 6 = .ok (.getfield 25, 3) := by decide +kernel
theorem dX2_heaviestOf_9 : decode cX2_heaviestOf 9 = .ok (.if_icmp .ge 40, 3) := by decide +kernel
theorem dX2_heaviestOf_12 : decode cX2_heaviestOf 12 = .ok (.iload_n 3, 1) := by decide +kernel
theorem dX2_heaviestOf_13 : decode cX2_heaviestOf 13 = .ok (.invokestatic 65, 3) := by decide +kernel
theorem dX2_heaviestOf_16 : decode cX2_heaviestOf 16 = .ok (.iload_n 1, 1) := by decide +kernel
theorem dX2_heaviestOf_17 : decode cX2_heaviestOf 17 = .ok (.if_icmp .gt 26, 3) := by decide +kernel
theorem dX2_heaviestOf_20 : decode cX2_heaviestOf 20 = .ok (.aload_n 0, 1) := by decide +kernel
theorem dX2_heaviestOf_21 : decode cX2_heaviestOf 21 = .ok (.iload_n 3, 1) := by decide +kernel
theorem dX2_heaviestOf_22 : decode cX2_heaviestOf 22 = .ok (.invokevirtual 58, 3) := by decide +kernel
theorem dX2_heaviestOf_25 : decode cX2_heaviestOf 25 = .ok (.ifCond .eq 18, 3) := by decide +kernel
theorem dX2_heaviestOf_28 : decode cX2_heaviestOf 28 = .ok (.aload_n 0, 1) := by decide +kernel
theorem dX2_heaviestOf_29 : decode cX2_heaviestOf 29 = .ok (.iload_n 3, 1) := by decide +kernel
theorem dX2_heaviestOf_30 : decode cX2_heaviestOf 30 = .ok (.invokevirtual 61, 3) := by decide +kernel
theorem dX2_heaviestOf_33 : decode cX2_heaviestOf 33 = .ok (.aload_n 0, 1) := by decide +kernel
theorem dX2_heaviestOf_34 : decode cX2_heaviestOf 34 = .ok (.iload_n 2, 1) := by decide +kernel
theorem dX2_heaviestOf_35 : decode cX2_heaviestOf 35 = .ok (.invokevirtual 61, 3) := by decide +kernel
theorem dX2_heaviestOf_38 : decode cX2_heaviestOf 38 = .ok (.if_icmp .le 5, 3) := by decide +kernel
theorem dX2_heaviestOf_41 : decode cX2_heaviestOf 41 = .ok (.iload_n 3, 1) := by decide +kernel
theorem dX2_heaviestOf_42 : decode cX2_heaviestOf 42 = .ok (.istore_n 2, 1) := by decide +kernel
theorem dX2_heaviestOf_43 : decode cX2_heaviestOf 43 = .ok (.iinc 3 1, 3) := by decide +kernel
theorem dX2_heaviestOf_46 : decode cX2_heaviestOf 46 = .ok (.goto (-42), 3) := by decide +kernel
theorem dX2_heaviestOf_49 : decode cX2_heaviestOf 49 = .ok (.iload_n 2, 1) := by decide +kernel
theorem dX2_heaviestOf_50 : decode cX2_heaviestOf 50 = .ok (.ireturn, 1) := by decide +kernel
set_option maxRecDepth 20000 in
theorem ggX2_areRead_X2_weightOf : GoodIn wsX2_areRead wsX2_weightOf := goodIn_r _ [5, 6, 7, 11, 12, 13, 14, 15, 16, 17] (by decide +kernel) (by decide +kernel)
set_option maxRecDepth 20000 in
theorem gX2_areRead_X2_weightOf : GoodIn wsX2_areRead (wsV RX2 51 RX2 yX2_weightOf wsX2_weightOf) := goodIn_app (goodIn_of _ (by decide +kernel)) ggX2_areRead_X2_weightOf
set_option maxRecDepth 20000 in
theorem ggX2_areRead_X6_reading : GoodIn wsX2_areRead wsX6_reading := goodIn_r _ [10] (by decide +kernel) (by decide +kernel)
set_option maxRecDepth 20000 in
theorem gX2_areRead_X6_reading_n55 : GoodIn wsX2_areRead (wsX6_reading) := ggX2_areRead_X6_reading
theorem dX2_areRead_0 : decode cX2_areRead 0 = .ok (.iconst 0, 1) := by decide +kernel
theorem dX2_areRead_1 : decode cX2_areRead 1 = .ok (.istore 6, 2) := by decide +kernel
theorem dX2_areRead_3 : decode cX2_areRead 3 = .ok (.iload 6, 2) := by decide +kernel
theorem dX2_areRead_5 : decode cX2_areRead 5 = .ok (.iload_n 3, 1) := by decide +kernel
theorem dX2_areRead_6 : decode cX2_areRead 6 = .ok (.if_icmp .ge 44, 3) := by decide +kernel
theorem dX2_areRead_9 : decode cX2_areRead 9 = .ok (.iload_n 2, 1) := by decide +kernel
theorem dX2_areRead_10 : decode cX2_areRead 10 = .ok (.iconst 2, 1) := by decide +kernel
theorem dX2_areRead_11 : decode cX2_areRead 11 = .ok (.iload 6, 2) := by decide +kernel
theorem dX2_areRead_13 : decode cX2_areRead 13 = .ok (.imul, 1) := by decide +kernel
theorem dX2_areRead_14 : decode cX2_areRead 14 = .ok (.iadd, 1) := by decide +kernel
theorem dX2_areRead_15 : decode cX2_areRead 15 = .ok (.istore 7, 2) := by decide +kernel
theorem dX2_areRead_17 : decode cX2_areRead 17 = .ok (.aload_n 0, 1) := by decide +kernel
theorem dX2_areRead_18 : decode cX2_areRead 18 = .ok (.aload_n 1, 1) := by decide +kernel
theorem dX2_areRead_19 : decode cX2_areRead 19 = .ok (.iload 7, 2) := by decide +kernel
theorem dX2_areRead_21 : decode cX2_areRead 21 = .ok (.iaload, 1) := by decide +kernel
theorem dX2_areRead_22 : decode cX2_areRead 22 = .ok (.invokevirtual 51, 3) := by decide +kernel
theorem dX2_areRead_25 : decode cX2_areRead 25 = .ok (.iload 4, 2) := by decide +kernel
theorem dX2_areRead_27 : decode cX2_areRead 27 = .ok (.iadd, 1) := by decide +kernel
theorem dX2_areRead_28 : decode cX2_areRead 28 = .ok (.iload 5, 2) := by decide +kernel
theorem dX2_areRead_30 : decode cX2_areRead 30 = .ok (.invokestatic 55, 3) := by decide +kernel
theorem dX2_areRead_33 : decode cX2_areRead 33 = .ok (.aload_n 1, 1) := by decide +kernel
theorem dX2_areRead_34 : decode cX2_areRead 34 = .ok (.iload 7, 2) := by decide +kernel
theorem dX2_areRead_36 : decode cX2_areRead 36 = .ok (.iconst 1, 1) := by decide +kernel
theorem dX2_areRead_37 : decode cX2_areRead 37 = .ok (.iadd, 1) := by decide +kernel
theorem dX2_areRead_38 : decode cX2_areRead 38 = .ok (.iaload, 1) := by decide +kernel
theorem dX2_areRead_39 : decode cX2_areRead 39 = .ok (.if_icmp .eq 5, 3) := by decide +kernel
theorem dX2_areRead_42 : decode cX2_areRead 42 = .ok (.iconst 0, 1) := by decide +kernel
theorem dX2_areRead_43 : decode cX2_areRead 43 = .ok (.ireturn, 1) := by decide +kernel
theorem dX2_areRead_44 : decode cX2_areRead 44 = .ok (.iinc 6 1, 3) := by decide +kernel
theorem dX2_areRead_47 : decode cX2_areRead 47 = .ok (.goto (-44), 3) := by decide +kernel
theorem dX2_areRead_50 : decode cX2_areRead 50 = .ok (.iconst 1, 1) := by decide +kernel
theorem dX2_areRead_51 : decode cX2_areRead 51 = .ok (.ireturn, 1) := by decide +kernel
theorem dX3_init_0 : decode cX3_init 0 = .ok (.aload_n 0, 1) := by decide +kernel
theorem dX3_init_1 : decode cX3_init 1 = .ok (.invokespecial 3, 3) := by decide +kernel
theorem dX3_init_4 : decode cX3_init 4 = .ok (.aload_n 0, 1) := by decide +kernel
theorem dX3_init_5 : decode cX3_init 5 = .ok (.bipush 8, 2) := by decide +kernel
theorem dX3_init_7 : decode cX3_init 7 = .ok (.bipush 40, 2) := by decide +kernel
theorem dX3_init_9 : decode cX3_init 9 = .ok (.multianewarray 11 2, 4) := by decide +kernel
theorem dX3_init_13 : decode cX3_init 13 = .ok (.putfield 13, 3) := by decide +kernel
theorem dX3_init_16 : decode cX3_init 16 = .ok (.aload_n 0, 1) := by decide +kernel
theorem dX3_init_17 : decode cX3_init 17 = .ok (.bipush 8, 2) := by decide +kernel
theorem dX3_init_19 : decode cX3_init 19 = .ok (.newarray .int, 2) := by decide +kernel
theorem dX3_init_21 : decode cX3_init 21 = .ok (.putfield 16, 3) := by decide +kernel
theorem dX3_init_24 : decode cX3_init 24 = .ok (.aload_n 0, 1) := by decide +kernel
theorem dX3_init_25 : decode cX3_init 25 = .ok (.bipush 8, 2) := by decide +kernel
theorem dX3_init_27 : decode cX3_init 27 = .ok (.newarray .int, 2) := by decide +kernel
theorem dX3_init_29 : decode cX3_init 29 = .ok (.putfield 20, 3) := by decide +kernel
theorem dX3_init_32 : decode cX3_init 32 = .ok (.iconst 0, 1) := by decide +kernel
theorem dX3_init_33 : decode cX3_init 33 = .ok (.istore_n 1, 1) := by decide +kernel
theorem dX3_init_34 : decode cX3_init 34 = .ok (.iload_n 1, 1) := by decide +kernel
theorem dX3_init_35 : decode cX3_init 35 = .ok (.bipush 8, 2) := by decide +kernel
theorem dX3_init_37 : decode cX3_init 37 = .ok (.if_icmp .ge 16, 3) := by decide +kernel
theorem dX3_init_40 : decode cX3_init 40 = .ok (.aload_n 0, 1) := by decide +kernel
theorem dX3_init_41 : decode cX3_init 41 = .ok (.getfield 20, 3) := by decide +kernel
theorem dX3_init_44 : decode cX3_init 44 = .ok (.iload_n 1, 1) := by decide +kernel
theorem dX3_init_45 : decode cX3_init 45 = .ok (.iconst (-1), 1) := by decide +kernel
theorem dX3_init_46 : decode cX3_init 46 = .ok (.iastore, 1) := by decide +kernel
theorem dX3_init_47 : decode cX3_init 47 = .ok (.iinc 1 1, 3) := by decide +kernel
theorem dX3_init_50 : decode cX3_init 50 = .ok (.goto (-16), 3) := by decide +kernel
theorem dX3_init_53 : decode cX3_init 53 = .ok (.return_, 1) := by decide +kernel
theorem dX3_isMissing_0 : decode cX3_isMissing 0 = .ok (.aload_n 0, 1) := by decide +kernel
theorem dX3_isMissing_1 : decode cX3_isMissing 1 = .ok (.getfield 20, 3) := by decide +kernel
theorem dX3_isMissing_4 : decode cX3_isMissing 4 = .ok (.iload_n 1, 1) := by decide +kernel
theorem dX3_isMissing_5 : decode cX3_isMissing 5 = .ok (.iaload, 1) := by decide +kernel
theorem dX3_isMissing_6 : decode cX3_isMissing 6 = .ok (.iconst (-1), 1) := by decide +kernel
theorem dX3_isMissing_7 : decode cX3_isMissing 7 = .ok (.if_icmp .ne 7, 3) := by decide +kernel
theorem dX3_isMissing_10 : decode cX3_isMissing 10 = .ok (.iconst 1, 1) := by decide +kernel
theorem dX3_isMissing_11 : decode cX3_isMissing 11 = .ok (.goto 4, 3) := by decide +kernel
theorem dX3_isMissing_14 : decode cX3_isMissing 14 = .ok (.iconst 0, 1) := by decide +kernel
theorem dX3_isMissing_15 : decode cX3_isMissing 15 = .ok (.ireturn, 1) := by decide +kernel
set_option maxRecDepth 20000 in
theorem ggX3_howMany_X3_isMissing : GoodIn wsX3_howMany wsX3_isMissing := goodIn_r _ [5, 6, 7, 8, 9] (by decide +kernel) (by decide +kernel)
set_option maxRecDepth 20000 in
theorem gX3_howMany_X3_isMissing : GoodIn wsX3_howMany (wsV RX3 23 RX3 yX3_isMissing wsX3_isMissing) := goodIn_app (goodIn_of _ (by decide +kernel)) ggX3_howMany_X3_isMissing
theorem dX3_howMany_0 : decode cX3_howMany 0 = .ok (.iconst 0, 1) := by decide +kernel
theorem dX3_howMany_1 : decode cX3_howMany 1 = .ok (.istore_n 1, 1) := by decide +kernel
theorem dX3_howMany_2 : decode cX3_howMany 2 = .ok (.iconst 0, 1) := by decide +kernel
theorem dX3_howMany_3 : decode cX3_howMany 3 = .ok (.istore_n 2, 1) := by decide +kernel
theorem dX3_howMany_4 : decode cX3_howMany 4 = .ok (.iload_n 2, 1) := by decide +kernel
theorem dX3_howMany_5 : decode cX3_howMany 5 = .ok (.bipush 8, 2) := by decide +kernel
theorem dX3_howMany_7 : decode cX3_howMany 7 = .ok (.if_icmp .ge 25, 3) := by decide +kernel
theorem dX3_howMany_10 : decode cX3_howMany 10 = .ok (.iload_n 1, 1) := by decide +kernel
theorem dX3_howMany_11 : decode cX3_howMany 11 = .ok (.aload_n 0, 1) := by decide +kernel
theorem dX3_howMany_12 : decode cX3_howMany 12 = .ok (.iload_n 2, 1) := by decide +kernel
theorem dX3_howMany_13 : decode cX3_howMany 13 = .ok (.invokevirtual 23, 3) := by decide +kernel
theorem dX3_howMany_16 : decode cX3_howMany 16 = .ok (.ifCond .eq 7, 3) := by decide +kernel
theorem dX3_howMany_19 : decode cX3_howMany 19 = .ok (.iconst 0, 1) := by decide +kernel
theorem dX3_howMany_20 : decode cX3_howMany 20 = .ok (.goto 4, 3) := by decide +kernel
theorem dX3_howMany_23 : decode cX3_howMany 23 = .ok (.iconst 1, 1) := by decide +kernel
theorem dX3_howMany_24 : decode cX3_howMany 24 = .ok (.iadd, 1) := by decide +kernel
theorem dX3_howMany_25 : decode cX3_howMany 25 = .ok (.istore_n 1, 1) := by decide +kernel
theorem dX3_howMany_26 : decode cX3_howMany 26 = .ok (.iinc 2 1, 3) := by decide +kernel
theorem dX3_howMany_29 : decode cX3_howMany 29 = .ok (.goto (-25), 3) := by decide +kernel
theorem dX3_howMany_32 : decode cX3_howMany 32 = .ok (.iload_n 1, 1) := by decide +kernel
theorem dX3_howMany_33 : decode cX3_howMany 33 = .ok (.ireturn, 1) := by decide +kernel
theorem dX3_make_0 : decode cX3_make 0 = .ok (.aload_n 0, 1) := by decide +kernel
theorem dX3_make_1 : decode cX3_make 1 = .ok (.getfield 16, 3) := by decide +kernel
theorem dX3_make_4 : decode cX3_make 4 = .ok (.iload_n 1, 1) := by decide +kernel
theorem dX3_make_5 : decode cX3_make 5 = .ok (.iload_n 2, 1) := by decide +kernel
theorem dX3_make_6 : decode cX3_make 6 = .ok (.iastore, 1) := by decide +kernel
theorem dX3_make_7 : decode cX3_make 7 = .ok (.aload_n 0, 1) := by decide +kernel
theorem dX3_make_8 : decode cX3_make 8 = .ok (.getfield 20, 3) := by decide +kernel
theorem dX3_make_11 : decode cX3_make 11 = .ok (.iload_n 1, 1) := by decide +kernel
theorem dX3_make_12 : decode cX3_make 12 = .ok (.iload_n 3, 1) := by decide +kernel
theorem dX3_make_13 : decode cX3_make 13 = .ok (.iastore, 1) := by decide +kernel
theorem dX3_make_14 : decode cX3_make 14 = .ok (.iconst 0, 1) := by decide +kernel
theorem dX3_make_15 : decode cX3_make 15 = .ok (.istore 4, 2) := by decide +kernel
theorem dX3_make_17 : decode cX3_make 17 = .ok (.iload 4, 2) := by decide +kernel
theorem dX3_make_19 : decode cX3_make 19 = .ok (.bipush 40, 2) := by decide +kernel
theorem dX3_make_21 : decode cX3_make 21 = .ok (.if_icmp .ge 19, 3) := by decide +kernel
theorem dX3_make_24 : decode cX3_make 24 = .ok (.aload_n 0, 1) := by decide +kernel
theorem dX3_make_25 : decode cX3_make 25 = .ok (.getfield 13, 3) := by decide +kernel
theorem dX3_make_28 : decode cX3_make 28 = .ok (.iload_n 1, 1) := by decide +kernel
theorem dX3_make_29 : decode cX3_make 29 = .ok (.aaload, 1) := by decide +kernel
theorem dX3_make_30 : decode cX3_make 30 = .ok (.iload 4, 2) := by decide +kernel
theorem dX3_make_32 : decode cX3_make 32 = .ok (.iconst 0, 1) := by decide +kernel
theorem dX3_make_33 : decode cX3_make 33 = .ok (.iastore, 1) := by decide +kernel
theorem dX3_make_34 : decode cX3_make 34 = .ok (.iinc 4 1, 3) := by decide +kernel
theorem dX3_make_37 : decode cX3_make 37 = .ok (.goto (-20), 3) := by decide +kernel
theorem dX3_make_40 : decode cX3_make 40 = .ok (.return_, 1) := by decide +kernel
theorem dX3_remove_0 : decode cX3_remove 0 = .ok (.aload_n 0, 1) := by decide +kernel
theorem dX3_remove_1 : decode cX3_remove 1 = .ok (.getfield 20, 3) := by decide +kernel
theorem dX3_remove_4 : decode cX3_remove 4 = .ok (.iload_n 1, 1) := by decide +kernel
theorem dX3_remove_5 : decode cX3_remove 5 = .ok (.iaload, 1) := by decide +kernel
theorem dX3_remove_6 : decode cX3_remove 6 = .ok (.istore_n 2, 1) := by decide +kernel
theorem dX3_remove_7 : decode cX3_remove 7 = .ok (.aload_n 0, 1) := by decide +kernel
theorem dX3_remove_8 : decode cX3_remove 8 = .ok (.getfield 20, 3) := by decide +kernel
theorem dX3_remove_11 : decode cX3_remove 11 = .ok (.iload_n 1, 1) := by decide +kernel
theorem dX3_remove_12 : decode cX3_remove 12 = .ok (.iconst (-1), 1) := by decide +kernel
theorem dX3_remove_13 : decode cX3_remove 13 = .ok (.iastore, 1) := by decide +kernel
theorem dX3_remove_14 : decode cX3_remove 14 = .ok (.iload_n 2, 1) := by decide +kernel
theorem dX3_remove_15 : decode cX3_remove 15 = .ok (.ireturn, 1) := by decide +kernel
set_option maxRecDepth 20000 in
theorem ggX3_findingOfRun_X3_isMissing : GoodIn wsX3_findingOfRun wsX3_isMissing := goodIn_r _ [6, 1, 7, 8, 9] (by decide +kernel) (by decide +kernel)
set_option maxRecDepth 20000 in
theorem gX3_findingOfRun_X3_isMissing : GoodIn wsX3_findingOfRun (wsV RX3 23 RX3 yX3_isMissing wsX3_isMissing) := goodIn_app (goodIn_of _ (by decide +kernel)) ggX3_findingOfRun_X3_isMissing
theorem dX3_findingOfRun_0 : decode cX3_findingOfRun 0 = .ok (.aload_n 0, 1) := by decide +kernel
theorem dX3_findingOfRun_1 : decode cX3_findingOfRun 1 = .ok (.iload_n 1, 1) := by decide +kernel
theorem dX3_findingOfRun_2 : decode cX3_findingOfRun 2 = .ok (.invokevirtual 23, 3) := by decide +kernel
theorem dX3_findingOfRun_5 : decode cX3_findingOfRun 5 = .ok (.ifCond .eq 5, 3) := by decide +kernel
theorem dX3_findingOfRun_8 : decode cX3_findingOfRun 8 = .ok (.iconst 1, 1) := by decide +kernel
theorem dX3_findingOfRun_9 : decode cX3_findingOfRun 9 = .ok (.ireturn, 1) := by decide +kernel
theorem dX3_findingOfRun_10 : decode cX3_findingOfRun 10 = .ok (.iload_n 2, 1) := by decide +kernel
theorem dX3_findingOfRun_11 : decode cX3_findingOfRun 11 = .ok (.ifCond .lt 19, 3) := by decide +kernel
theorem dX3_findingOfRun_14 : decode cX3_findingOfRun 14 = .ok (.iload_n 3, 1) := by decide +kernel
theorem dX3_findingOfRun_15 : decode cX3_findingOfRun 15 = .ok (.ifCond .lt 15, 3) := by decide +kernel
theorem dX3_findingOfRun_18 : decode cX3_findingOfRun 18 = .ok (.iload_n 2, 1) := by decide +kernel
theorem dX3_findingOfRun_19 : decode cX3_findingOfRun 19 = .ok (.aload_n 0, 1) := by decide +kernel
theorem dX3_findingOfRun_20 : decode cX3_findingOfRun 20 = .ok (.getfield 20, 3) := by decide +kernel
theorem dX3_findingOfRun_23 : decode cX3_findingOfRun 23 = .ok (.iload_n 1, 1) := by decide +kernel
theorem dX3_findingOfRun_24 : decode cX3_findingOfRun 24 = .ok (.iaload, 1) := by decide +kernel
theorem dX3_findingOfRun_25 : decode cX3_findingOfRun 25 = .ok (.iload_n 3, 1) := by decide +kernel
theorem dX3_findingOfRun_26 : decode cX3_findingOfRun 26 = .ok (.isub, 1) := by decide +kernel
theorem dX3_findingOfRun_27 : decode cX3_findingOfRun 27 = .ok (.if_icmp .le 7, 3) := by decide +kernel
theorem dX3_findingOfRun_30 : decode cX3_findingOfRun 30 = .ok (.iconst 2, 1) := by decide +kernel
theorem dX3_findingOfRun_31 : decode cX3_findingOfRun 31 = .ok (.goto 4, 3) := by decide +kernel
theorem dX3_findingOfRun_34 : decode cX3_findingOfRun 34 = .ok (.iconst 0, 1) := by decide +kernel
theorem dX3_findingOfRun_35 : decode cX3_findingOfRun 35 = .ok (.ireturn, 1) := by decide +kernel
set_option maxRecDepth 20000 in
theorem ggX3_findingOfCopy_X3_isMissing : GoodIn wsX3_findingOfCopy wsX3_isMissing := goodIn_r _ [6, 7, 12, 13, 14] (by decide +kernel) (by decide +kernel)
set_option maxRecDepth 20000 in
theorem gX3_findingOfCopy_X3_isMissing : GoodIn wsX3_findingOfCopy (wsV RX3 23 RX3 yX3_isMissing wsX3_isMissing) := goodIn_app (goodIn_of _ (by decide +kernel)) ggX3_findingOfCopy_X3_isMissing
set_option maxRecDepth 20000 in
theorem ggX3_findingOfCopy_X3_findingOfRun : GoodIn wsX3_findingOfCopy wsX3_findingOfRun := goodIn_r _ [11, 7, 2, 3, 4, 5, 6, 12, 13, 14] (by decide +kernel) (by decide +kernel)
set_option maxRecDepth 20000 in
theorem gX3_findingOfCopy_X3_findingOfRun : GoodIn wsX3_findingOfCopy (wsV RX3 27 RX3 yX3_findingOfRun wsX3_findingOfRun) := goodIn_app (goodIn_of _ (by decide +kernel)) ggX3_findingOfCopy_X3_findingOfRun
theorem dX3_findingOfCopy_0 : decode cX3_findingOfCopy 0 = .ok (.aload_n 0, 1) := by decide +kernel
theorem dX3_findingOfCopy_1 : decode cX3_findingOfCopy 1 = .ok (.iload_n 1, 1) := by decide +kernel
theorem dX3_findingOfCopy_2 : decode cX3_findingOfCopy 2 = .ok (.invokevirtual 23, 3) := by decide +kernel
theorem dX3_findingOfCopy_5 : decode cX3_findingOfCopy 5 = .ok (.ifCond .ne 11, 3) := by decide +kernel
theorem dX3_findingOfCopy_8 : decode cX3_findingOfCopy 8 = .ok (.aload_n 0, 1) := by decide +kernel
theorem dX3_findingOfCopy_9 : decode cX3_findingOfCopy 9 = .ok (.iload_n 3, 1) := by decide +kernel
theorem dX3_findingOfCopy_10 : decode cX3_findingOfCopy 10 = .ok (.invokevirtual 23, 3) := by decide +kernel
theorem dX3_findingOfCopy_13 : decode cX3_findingOfCopy 13 = .ok (.ifCond .eq 5, 3) := by decide +kernel
theorem dX3_findingOfCopy_16 : decode cX3_findingOfCopy 16 = .ok (.iconst 1, 1) := by decide +kernel
theorem dX3_findingOfCopy_17 : decode cX3_findingOfCopy 17 = .ok (.ireturn, 1) := by decide +kernel
theorem dX3_findingOfCopy_18 : decode cX3_findingOfCopy 18 = .ok (.aload_n 0, 1) := by decide +kernel
theorem dX3_findingOfCopy_19 : decode cX3_findingOfCopy 19 = .ok (.getfield 16, 3) := by decide +kernel
theorem dX3_findingOfCopy_22 : decode cX3_findingOfCopy 22 = .ok (.iload_n 1, 1) := by decide +kernel
theorem dX3_findingOfCopy_23 : decode cX3_findingOfCopy 23 = .ok (.iaload, 1) := by decide +kernel
theorem dX3_findingOfCopy_24 : decode cX3_findingOfCopy 24 = .ok (.aload_n 0, 1) := by decide +kernel
theorem dX3_findingOfCopy_25 : decode cX3_findingOfCopy 25 = .ok (.getfield 16, 3) := by decide +kernel
theorem dX3_findingOfCopy_28 : decode cX3_findingOfCopy 28 = .ok (.iload_n 3, 1) := by decide +kernel
theorem dX3_findingOfCopy_29 : decode cX3_findingOfCopy 29 = .ok (.iaload, 1) := by decide +kernel
theorem dX3_findingOfCopy_30 : decode cX3_findingOfCopy 30 = .ok (.if_icmp .eq 5, 3) := by decide +kernel
theorem dX3_findingOfCopy_33 : decode cX3_findingOfCopy 33 = .ok (.iconst 5, 1) := by decide +kernel
theorem dX3_findingOfCopy_34 : decode cX3_findingOfCopy 34 = .ok (.ireturn, 1) := by decide +kernel
theorem dX3_findingOfCopy_35 : decode cX3_findingOfCopy 35 = .ok (.aload_n 0, 1) := by decide +kernel
theorem dX3_findingOfCopy_36 : decode cX3_findingOfCopy 36 = .ok (.iload_n 1, 1) := by decide +kernel
theorem dX3_findingOfCopy_37 : decode cX3_findingOfCopy 37 = .ok (.iload_n 2, 1) := by decide +kernel
theorem dX3_findingOfCopy_38 : decode cX3_findingOfCopy 38 = .ok (.iload 5, 2) := by decide +kernel
theorem dX3_findingOfCopy_40 : decode cX3_findingOfCopy 40 = .ok (.invokevirtual 27, 3) := by decide +kernel
theorem dX3_findingOfCopy_43 : decode cX3_findingOfCopy 43 = .ok (.istore 6, 2) := by decide +kernel
theorem dX3_findingOfCopy_45 : decode cX3_findingOfCopy 45 = .ok (.iload 6, 2) := by decide +kernel
theorem dX3_findingOfCopy_47 : decode cX3_findingOfCopy 47 = .ok (.ifCond .eq 8, 3) := by decide +kernel
theorem dX3_findingOfCopy_50 : decode cX3_findingOfCopy 50 = .ok (.iload 6, 2) := by decide +kernel
theorem dX3_findingOfCopy_52 : decode cX3_findingOfCopy 52 = .ok (.goto 12, 3) := by decide +kernel
theorem dX3_findingOfCopy_55 : decode cX3_findingOfCopy 55 = .ok (.aload_n 0, 1) := by decide +kernel
theorem dX3_findingOfCopy_56 : decode cX3_findingOfCopy 56 = .ok (.iload_n 3, 1) := by decide +kernel
theorem dX3_findingOfCopy_57 : decode cX3_findingOfCopy 57 = .ok (.iload 4, 2) := by decide +kernel
theorem dX3_findingOfCopy_59 : decode cX3_findingOfCopy 59 = .ok (.iload 5, 2) := by decide +kernel
theorem dX3_findingOfCopy_61 : decode cX3_findingOfCopy 61 = .ok (.invokevirtual 27, 3) := by decide +kernel
theorem dX3_findingOfCopy_64 : decode cX3_findingOfCopy 64 = .ok (.ireturn, 1) := by decide +kernel
theorem dX3_put_0 : decode cX3_put 0 = .ok (.iload_n 3, 1) := by decide +kernel
theorem dX3_put_1 : decode cX3_put 1 = .ok (.istore 4, 2) := by decide +kernel
theorem dX3_put_3 : decode cX3_put 3 = .ok (.aload_n 0, 1) := by decide +kernel
theorem dX3_put_4 : decode cX3_put 4 = .ok (.getfield 16, 3) := by decide +kernel
theorem dX3_put_7 : decode cX3_put 7 = .ok (.iload_n 1, 1) := by decide +kernel
theorem dX3_put_8 : decode cX3_put 8 = .ok (.iaload, 1) := by decide +kernel
theorem dX3_put_9 : decode cX3_put 9 = .ok (.ifCond .ne 10, 3) := by decide +kernel
theorem dX3_put_12 : decode cX3_put 12 = .ok (.iload_n 3, 1) := by decide +kernel
theorem dX3_put_13 : decode cX3_put 13 = .ok (.i2b, 1) := by decide +kernel
theorem dX3_put_14 : decode cX3_put 14 = .ok (.istore 4, 2) := by decide +kernel
theorem dX3_put_16 : decode cX3_put 16 = .ok (.goto 17, 3) := by decide +kernel
theorem dX3_put_19 : decode cX3_put 19 = .ok (.aload_n 0, 1) := by decide +kernel
theorem dX3_put_20 : decode cX3_put 20 = .ok (.getfield 16, 3) := by decide +kernel
theorem dX3_put_23 : decode cX3_put 23 = .ok (.iload_n 1, 1) := by decide +kernel
theorem dX3_put_24 : decode cX3_put 24 = .ok (.iaload, 1) := by decide +kernel
theorem dX3_put_25 : decode cX3_put 25 = .ok (.iconst 1, 1) := by decide +kernel
theorem dX3_put_26 : decode cX3_put 26 = .ok (.if_icmp .ne 7, 3) := by decide +kernel
theorem dX3_put_29 : decode cX3_put 29 = .ok (.iload_n 3, 1) := by decide +kernel
theorem dX3_put_30 : decode cX3_put 30 = .ok (.i2s, 1) := by decide +kernel
theorem dX3_put_31 : decode cX3_put 31 = .ok (.istore 4, 2) := by decide +kernel
theorem dX3_put_33 : decode cX3_put 33 = .ok (.aload_n 0, 1) := by decide +kernel
theorem dX3_put_34 : decode cX3_put 34 = .ok (.getfield 13, 3) := by decide +kernel
theorem dX3_put_37 : decode cX3_put 37 = .ok (.iload_n 1, 1) := by decide +kernel
theorem dX3_put_38 : decode cX3_put 38 = .ok (.aaload, 1) := by decide +kernel
theorem dX3_put_39 : decode cX3_put 39 = .ok (.iload_n 2, 1) := by decide +kernel
theorem dX3_put_40 : decode cX3_put 40 = .ok (.iload 4, 2) := by decide +kernel
theorem dX3_put_42 : decode cX3_put 42 = .ok (.iastore, 1) := by decide +kernel
theorem dX3_put_43 : decode cX3_put 43 = .ok (.iload 4, 2) := by decide +kernel
theorem dX3_put_45 : decode cX3_put 45 = .ok (.ireturn, 1) := by decide +kernel
theorem dX3_move_0 : decode cX3_move 0 = .ok (.aload_n 0, 1) := by decide +kernel
theorem dX3_move_1 : decode cX3_move 1 = .ok (.getfield 13, 3) := by decide +kernel
theorem dX3_move_4 : decode cX3_move 4 = .ok (.iload_n 1, 1) := by decide +kernel
theorem dX3_move_5 : decode cX3_move 5 = .ok (.aaload, 1) := by decide +kernel
theorem dX3_move_6 : decode cX3_move 6 = .ok (.iload_n 2, 1) := by decide +kernel
theorem dX3_move_7 : decode cX3_move 7 = .ok (.aload_n 0, 1) := by decide +kernel
theorem dX3_move_8 : decode cX3_move 8 = .ok (.getfield 13, 3) := by decide +kernel
theorem dX3_move_11 : decode cX3_move 11 = .ok (.iload_n 3, 1) := by decide +kernel
theorem dX3_move_12 : decode cX3_move 12 = .ok (.aaload, 1) := by decide +kernel
theorem dX3_move_13 : decode cX3_move 13 = .ok (.iload 4, 2) := by decide +kernel
theorem dX3_move_15 : decode cX3_move 15 = .ok (.iload 5, 2) := by decide +kernel
theorem dX3_move_17 : decode cX3_move 17 = .ok (.invokestatic 31, 3) := by decide +kernel
theorem dX3_move_20 : decode cX3_move 20 = .ok (.return_, 1) := by decide +kernel
theorem dX4_init_0 : decode cX4_init 0 = .ok (.aload_n 0, 1) := by decide +kernel
theorem dX4_init_1 : decode cX4_init 1 = .ok (.invokespecial 3, 3) := by decide +kernel
theorem dX4_init_4 : decode cX4_init 4 = .ok (.aload_n 0, 1) := by decide +kernel
theorem dX4_init_5 : decode cX4_init 5 = .ok (.iconst 4, 1) := by decide +kernel
theorem dX4_init_6 : decode cX4_init 6 = .ok (.newarray .int, 2) := by decide +kernel
theorem dX4_init_8 : decode cX4_init 8 = .ok (.putfield 9, 3) := by decide +kernel
theorem dX4_init_11 : decode cX4_init 11 = .ok (.aload_n 0, 1) := by decide +kernel
theorem dX4_init_12 : decode cX4_init 12 = .ok (.bipush 8, 2) := by decide +kernel
theorem dX4_init_14 : decode cX4_init 14 = .ok (.newarray .int, 2) := by decide +kernel
theorem dX4_init_16 : decode cX4_init 16 = .ok (.putfield 15, 3) := by decide +kernel
theorem dX4_init_19 : decode cX4_init 19 = .ok (.aload_n 0, 1) := by decide +kernel
theorem dX4_init_20 : decode cX4_init 20 = .ok (.bipush 8, 2) := by decide +kernel
theorem dX4_init_22 : decode cX4_init 22 = .ok (.newarray .int, 2) := by decide +kernel
theorem dX4_init_24 : decode cX4_init 24 = .ok (.putfield 18, 3) := by decide +kernel
theorem dX4_init_27 : decode cX4_init 27 = .ok (.aload_n 0, 1) := by decide +kernel
theorem dX4_init_28 : decode cX4_init 28 = .ok (.bipush 8, 2) := by decide +kernel
theorem dX4_init_30 : decode cX4_init 30 = .ok (.newarray .int, 2) := by decide +kernel
theorem dX4_init_32 : decode cX4_init 32 = .ok (.putfield 21, 3) := by decide +kernel
theorem dX4_init_35 : decode cX4_init 35 = .ok (.aload_n 0, 1) := by decide +kernel
theorem dX4_init_36 : decode cX4_init 36 = .ok (.bipush 8, 2) := by decide +kernel
theorem dX4_init_38 : decode cX4_init 38 = .ok (.newarray .int, 2) := by decide +kernel
theorem dX4_init_40 : decode cX4_init 40 = .ok (.putfield 24, 3) := by decide +kernel
theorem dX4_init_43 : decode cX4_init 43 = .ok (.aload_n 0, 1) := by decide +kernel
theorem dX4_init_44 : decode cX4_init 44 = .ok (.bipush 8, 2) := by decide +kernel
theorem dX4_init_46 : decode cX4_init 46 = .ok (.newarray .int, 2) := by decide +kernel
theorem dX4_init_48 : decode cX4_init 48 = .ok (.putfield 27, 3) := by decide +kernel
theorem dX4_init_51 : decode cX4_init 51 = .ok (.aload_n 0, 1) := by decide +kernel
theorem dX4_init_52 : decode cX4_init 52 = .ok (.bipush 8, 2) := by decide +kernel
theorem dX4_init_54 : decode cX4_init 54 = .ok (.newarray .int, 2) := by decide +kernel
theorem dX4_init_56 : decode cX4_init 56 = .ok (.putfield 30, 3) := by decide +kernel
theorem dX4_init_59 : decode cX4_init 59 = .ok (.return_, 1) := by decide +kernel
theorem dX4_clear_0 : decode cX4_clear 0 = .ok (.aload_n 0, 1) := by decide +kernel
theorem dX4_clear_1 : decode cX4_clear 1 = .ok (.iconst 1, 1) := by decide +kernel
theorem dX4_clear_2 : decode cX4_clear 2 = .ok (.putfield 33, 3) := by decide +kernel
theorem dX4_clear_5 : decode cX4_clear 5 = .ok (.aload_n 0, 1) := by decide +kernel
theorem dX4_clear_6 : decode cX4_clear 6 = .ok (.iconst 0, 1) := by decide +kernel
theorem dX4_clear_7 : decode cX4_clear 7 = .ok (.putfield 37, 3) := by decide +kernel
theorem dX4_clear_10 : decode cX4_clear 10 = .ok (.aload_n 0, 1) := by decide +kernel
theorem dX4_clear_11 : decode cX4_clear 11 = .ok (.iconst 0, 1) := by decide +kernel
theorem dX4_clear_12 : decode cX4_clear 12 = .ok (.putfield 41, 3) := by decide +kernel
theorem dX4_clear_15 : decode cX4_clear 15 = .ok (.aload_n 0, 1) := by decide +kernel
theorem dX4_clear_16 : decode cX4_clear 16 = .ok (.iconst 0, 1) := by decide +kernel
theorem dX4_clear_17 : decode cX4_clear 17 = .ok (.putfield 44, 3) := by decide +kernel
theorem dX4_clear_20 : decode cX4_clear 20 = .ok (.iconst 0, 1) := by decide +kernel
theorem dX4_clear_21 : decode cX4_clear 21 = .ok (.istore_n 1, 1) := by decide +kernel
theorem dX4_clear_22 : decode cX4_clear 22 = .ok (.iload_n 1, 1) := by decide +kernel
theorem dX4_clear_23 : decode cX4_clear 23 = .ok (.bipush 8, 2) := by decide +kernel
theorem dX4_clear_25 : decode cX4_clear 25 = .ok (.if_icmp .ge 16, 3) := by decide +kernel
theorem dX4_clear_28 : decode cX4_clear 28 = .ok (.aload_n 0, 1) := by decide +kernel
theorem dX4_clear_29 : decode cX4_clear 29 = .ok (.getfield 30, 3) := by decide +kernel
theorem dX4_clear_32 : decode cX4_clear 32 = .ok (.iload_n 1, 1) := by decide +kernel
theorem dX4_clear_33 : decode cX4_clear 33 = .ok (.iconst 0, 1) := by decide +kernel
theorem dX4_clear_34 : decode cX4_clear 34 = .ok (.iastore, 1) := by decide +kernel
theorem dX4_clear_35 : decode cX4_clear 35 = .ok (.iinc 1 1, 3) := by decide +kernel
theorem dX4_clear_38 : decode cX4_clear 38 = .ok (.goto (-16), 3) := by decide +kernel
theorem dX4_clear_41 : decode cX4_clear 41 = .ok (.return_, 1) := by decide +kernel
theorem dX4_become_0 : decode cX4_become 0 = .ok (.aload_n 0, 1) := by decide +kernel
theorem dX4_become_1 : decode cX4_become 1 = .ok (.aload_n 1, 1) := by decide +kernel
theorem dX4_become_2 : decode cX4_become 2 = .ok (.getfield 33, 3) := by decide +kernel
theorem dX4_become_5 : decode cX4_become 5 = .ok (.putfield 33, 3) := by decide +kernel
theorem dX4_become_8 : decode cX4_become 8 = .ok (.aload_n 0, 1) := by decide +kernel
theorem dX4_become_9 : decode cX4_become 9 = .ok (.aload_n 1, 1) := by decide +kernel
theorem dX4_become_10 : decode cX4_become 10 = .ok (.getfield 47, 3) := by decide +kernel
theorem dX4_become_13 : decode cX4_become 13 = .ok (.putfield 47, 3) := by decide +kernel
theorem dX4_become_16 : decode cX4_become 16 = .ok (.aload_n 0, 1) := by decide +kernel
theorem dX4_become_17 : decode cX4_become 17 = .ok (.aload_n 1, 1) := by decide +kernel
theorem dX4_become_18 : decode cX4_become 18 = .ok (.getfield 50, 3) := by decide +kernel
theorem dX4_become_21 : decode cX4_become 21 = .ok (.putfield 50, 3) := by decide +kernel
theorem dX4_become_24 : decode cX4_become 24 = .ok (.aload_n 0, 1) := by decide +kernel
theorem dX4_become_25 : decode cX4_become 25 = .ok (.aload_n 1, 1) := by decide +kernel
theorem dX4_become_26 : decode cX4_become 26 = .ok (.getfield 37, 3) := by decide +kernel
theorem dX4_become_29 : decode cX4_become 29 = .ok (.putfield 37, 3) := by decide +kernel
theorem dX4_become_32 : decode cX4_become 32 = .ok (.aload_n 0, 1) := by decide +kernel
theorem dX4_become_33 : decode cX4_become 33 = .ok (.aload_n 1, 1) := by decide +kernel
theorem dX4_become_34 : decode cX4_become 34 = .ok (.getfield 41, 3) := by decide +kernel
theorem dX4_become_37 : decode cX4_become 37 = .ok (.putfield 41, 3) := by decide +kernel
theorem dX4_become_40 : decode cX4_become 40 = .ok (.aload_n 0, 1) := by decide +kernel
theorem dX4_become_41 : decode cX4_become 41 = .ok (.aload_n 1, 1) := by decide +kernel
theorem dX4_become_42 : decode cX4_become 42 = .ok (.getfield 44, 3) := by decide +kernel
theorem dX4_become_45 : decode cX4_become 45 = .ok (.putfield 44, 3) := by decide +kernel
theorem dX4_become_48 : decode cX4_become 48 = .ok (.iconst 0, 1) := by decide +kernel
theorem dX4_become_49 : decode cX4_become 49 = .ok (.istore_n 2, 1) := by decide +kernel
theorem dX4_become_50 : decode cX4_become 50 = .ok (.iload_n 2, 1) := by decide +kernel
theorem dX4_become_51 : decode cX4_become 51 = .ok (.iconst 4, 1) := by decide +kernel
theorem dX4_become_52 : decode cX4_become 52 = .ok (.if_icmp .ge 21, 3) := by decide +kernel
theorem dX4_become_55 : decode cX4_become 55 = .ok (.aload_n 0, 1) := by decide +kernel
theorem dX4_become_56 : decode cX4_become 56 = .ok (.getfield 9, 3) := by decide +kernel
theorem dX4_become_59 : decode cX4_become 59 = .ok (.iload_n 2, 1) := by decide +kernel
theorem dX4_become_60 : decode cX4_become 60 = .ok (.aload_n 1, 1) := by decide +kernel
theorem dX4_become_61 : decode cX4_become 61 = .ok (.getfield 9, 3) := by decide +kernel
theorem dX4_become_64 : decode cX4_become 64 = .ok (.iload_n 2, 1) := by decide +kernel
theorem dX4_become_65 : decode cX4_become 65 = .ok (.iaload, 1) := by decide +kernel
theorem dX4_become_66 : decode cX4_become 66 = .ok (.iastore, 1) := by decide +kernel
theorem dX4_become_67 : decode cX4_become 67 = .ok (.iinc 2 1, 3) := by decide +kernel
theorem dX4_become_70 : decode cX4_become 70 = .ok (.goto (-20), 3) := by decide +kernel
theorem dX4_become_73 : decode cX4_become 73 = .ok (.iconst 0, 1) := by decide +kernel
theorem dX4_become_74 : decode cX4_become 74 = .ok (.istore_n 2, 1) := by decide +kernel
theorem dX4_become_75 : decode cX4_become 75 = .ok (.iload_n 2, 1) := by decide +kernel
theorem dX4_become_76 : decode cX4_become 76 = .ok (.bipush 8, 2) := by decide +kernel
theorem dX4_become_78 : decode cX4_become 78 = .ok (.if_icmp .ge 81, 3) := by decide +kernel
theorem dX4_become_81 : decode cX4_become 81 = .ok (.aload_n 0, 1) := by decide +kernel
theorem dX4_become_82 : decode cX4_become 82 = .ok (.getfield 15, 3) := by decide +kernel
theorem dX4_become_85 : decode cX4_become 85 = .ok (.iload_n 2, 1) := by decide +kernel
theorem dX4_become_86 : decode cX4_become 86 = .ok (.aload_n 1, 1) := by decide +kernel
theorem dX4_become_87 : decode cX4_become 87 = .ok (.getfield 15, 3) := by decide +kernel
theorem dX4_become_90 : decode cX4_become 90 = .ok (.iload_n 2, 1) := by decide +kernel
theorem dX4_become_91 : decode cX4_become 91 = .ok (.iaload, 1) := by decide +kernel
theorem dX4_become_92 : decode cX4_become 92 = .ok (.iastore, 1) := by decide +kernel
theorem dX4_become_93 : decode cX4_become 93 = .ok (.aload_n 0, 1) := by decide +kernel
theorem dX4_become_94 : decode cX4_become 94 = .ok (.getfield 18, 3) := by decide +kernel
theorem dX4_become_97 : decode cX4_become 97 = .ok (.iload_n 2, 1) := by decide +kernel
theorem dX4_become_98 : decode cX4_become 98 = .ok (.aload_n 1, 1) := by decide +kernel
theorem dX4_become_99 : decode cX4_become 99 = .ok (.getfield 18, 3) := by decide +kernel
theorem dX4_become_102 : decode cX4_become 102 = .ok (.iload_n 2, 1) := by decide +kernel
theorem dX4_become_103 : decode cX4_become 103 = .ok (.iaload, 1) := by decide +kernel
theorem dX4_become_104 : decode cX4_become 104 = .ok (.iastore, 1) := by decide +kernel
theorem dX4_become_105 : decode cX4_become 105 = .ok (.aload_n 0, 1) := by decide +kernel
theorem dX4_become_106 : decode cX4_become 106 = .ok (.getfield 21, 3) := by decide +kernel
theorem dX4_become_109 : decode cX4_become 109 = .ok (.iload_n 2, 1) := by decide +kernel
theorem dX4_become_110 : decode cX4_become 110 = .ok (.aload_n 1, 1) := by decide +kernel
theorem dX4_become_111 : decode cX4_become 111 = .ok (.getfield 21, 3) := by decide +kernel
theorem dX4_become_114 : decode cX4_become 114 = .ok (.iload_n 2, 1) := by decide +kernel
theorem dX4_become_115 : decode cX4_become 115 = .ok (.iaload, 1) := by decide +kernel
theorem dX4_become_116 : decode cX4_become 116 = .ok (.iastore, 1) := by decide +kernel
theorem dX4_become_117 : decode cX4_become 117 = .ok (.aload_n 0, 1) := by decide +kernel
theorem dX4_become_118 : decode cX4_become 118 = .ok (.getfield 24, 3) := by decide +kernel
theorem dX4_become_121 : decode cX4_become 121 = .ok (.iload_n 2, 1) := by decide +kernel
theorem dX4_become_122 : decode cX4_become 122 = .ok (.aload_n 1, 1) := by decide +kernel
theorem dX4_become_123 : decode cX4_become 123 = .ok (.getfield 24, 3) := by decide +kernel
theorem dX4_become_126 : decode cX4_become 126 = .ok (.iload_n 2, 1) := by decide +kernel
theorem dX4_become_127 : decode cX4_become 127 = .ok (.iaload, 1) := by decide +kernel
theorem dX4_become_128 : decode cX4_become 128 = .ok (.iastore, 1) := by decide +kernel
theorem dX4_become_129 : decode cX4_become 129 = .ok (.aload_n 0, 1) := by decide +kernel
theorem dX4_become_130 : decode cX4_become 130 = .ok (.getfield 27, 3) := by decide +kernel
theorem dX4_become_133 : decode cX4_become 133 = .ok (.iload_n 2, 1) := by decide +kernel
theorem dX4_become_134 : decode cX4_become 134 = .ok (.aload_n 1, 1) := by decide +kernel
theorem dX4_become_135 : decode cX4_become 135 = .ok (.getfield 27, 3) := by decide +kernel
theorem dX4_become_138 : decode cX4_become 138 = .ok (.iload_n 2, 1) := by decide +kernel
theorem dX4_become_139 : decode cX4_become 139 = .ok (.iaload, 1) := by decide +kernel
theorem dX4_become_140 : decode cX4_become 140 = .ok (.iastore, 1) := by decide +kernel
theorem dX4_become_141 : decode cX4_become 141 = .ok (.aload_n 0, 1) := by decide +kernel
theorem dX4_become_142 : decode cX4_become 142 = .ok (.getfield 30, 3) := by decide +kernel
theorem dX4_become_145 : decode cX4_become 145 = .ok (.iload_n 2, 1) := by decide +kernel
theorem dX4_become_146 : decode cX4_become 146 = .ok (.aload_n 1, 1) := by decide +kernel
theorem dX4_become_147 : decode cX4_become 147 = .ok (.getfield 30, 3) := by decide +kernel
theorem dX4_become_150 : decode cX4_become 150 = .ok (.iload_n 2, 1) := by decide +kernel
theorem dX4_become_151 : decode cX4_become 151 = .ok (.iaload, 1) := by decide +kernel
theorem dX4_become_152 : decode cX4_become 152 = .ok (.iastore, 1) := by decide +kernel
theorem dX4_become_153 : decode cX4_become 153 = .ok (.iinc 2 1, 3) := by decide +kernel
theorem dX4_become_156 : decode cX4_become 156 = .ok (.goto (-81), 3) := by decide +kernel
theorem dX4_become_159 : decode cX4_become 159 = .ok (.return_, 1) := by decide +kernel
theorem dX4_isSettled_0 : decode cX4_isSettled 0 = .ok (.aload_n 0, 1) := by decide +kernel
theorem dX4_isSettled_1 : decode cX4_isSettled 1 = .ok (.getfield 30, 3) := by decide +kernel
theorem dX4_isSettled_4 : decode cX4_isSettled 4 = .ok (.iload_n 1, 1) := by decide +kernel
theorem dX4_isSettled_5 : decode cX4_isSettled 5 = .ok (.iaload, 1) := by decide +kernel
theorem dX4_isSettled_6 : decode cX4_isSettled 6 = .ok (.ifCond .eq 7, 3) := by decide +kernel
theorem dX4_isSettled_9 : decode cX4_isSettled 9 = .ok (.iconst 1, 1) := by decide +kernel
theorem dX4_isSettled_10 : decode cX4_isSettled 10 = .ok (.goto 4, 3) := by decide +kernel
theorem dX4_isSettled_13 : decode cX4_isSettled 13 = .ok (.iconst 0, 1) := by decide +kernel
theorem dX4_isSettled_14 : decode cX4_isSettled 14 = .ok (.ireturn, 1) := by decide +kernel
theorem dX4_isLaid_0 : decode cX4_isLaid 0 = .ok (.aload_n 0, 1) := by decide +kernel
theorem dX4_isLaid_1 : decode cX4_isLaid 1 = .ok (.getfield 44, 3) := by decide +kernel
theorem dX4_isLaid_4 : decode cX4_isLaid 4 = .ok (.iload_n 1, 1) := by decide +kernel
theorem dX4_isLaid_5 : decode cX4_isLaid 5 = .ok (.ishr, 1) := by decide +kernel
theorem dX4_isLaid_6 : decode cX4_isLaid 6 = .ok (.iconst 1, 1) := by decide +kernel
theorem dX4_isLaid_7 : decode cX4_isLaid 7 = .ok (.iand, 1) := by decide +kernel
theorem dX4_isLaid_8 : decode cX4_isLaid 8 = .ok (.iconst 1, 1) := by decide +kernel
theorem dX4_isLaid_9 : decode cX4_isLaid 9 = .ok (.if_icmp .ne 7, 3) := by decide +kernel
theorem dX4_isLaid_12 : decode cX4_isLaid 12 = .ok (.iconst 1, 1) := by decide +kernel
theorem dX4_isLaid_13 : decode cX4_isLaid 13 = .ok (.goto 4, 3) := by decide +kernel
theorem dX4_isLaid_16 : decode cX4_isLaid 16 = .ok (.iconst 0, 1) := by decide +kernel
theorem dX4_isLaid_17 : decode cX4_isLaid 17 = .ok (.ireturn, 1) := by decide +kernel
theorem dX4_isSet_0 : decode cX4_isSet 0 = .ok (.iload_n 1, 1) := by decide +kernel
theorem dX4_isSet_1 : decode cX4_isSet 1 = .ok (.ifCond .lt 17, 3) := by decide +kernel
theorem dX4_isSet_4 : decode cX4_isSet 4 = .ok (.iload_n 1, 1) := by decide +kernel
theorem dX4_isSet_5 : decode cX4_isSet 5 = .ok (.iconst 1, 1) := by decide +kernel
theorem dX4_isSet_6 : decode cX4_isSet 6 = .ok (.aload_n 0, 1) := by decide +kernel
theorem dX4_isSet_7 : decode cX4_isSet 7 = .ok (.getfield 41, 3) := by decide +kernel
theorem dX4_isSet_10 : decode cX4_isSet 10 = .ok (.ishl, 1) := by decide +kernel
theorem dX4_isSet_11 : decode cX4_isSet 11 = .ok (.if_icmp .ge 7, 3) := by decide +kernel
theorem dX4_isSet_14 : decode cX4_isSet 14 = .ok (.iconst 1, 1) := by decide +kernel
theorem dX4_isSet_15 : decode cX4_isSet 15 = .ok (.goto 4, 3) := by decide +kernel
theorem dX4_isSet_18 : decode cX4_isSet 18 = .ok (.iconst 0, 1) := by decide +kernel
theorem dX4_isSet_19 : decode cX4_isSet 19 = .ok (.ireturn, 1) := by decide +kernel
theorem dX4_turn_0 : decode cX4_turn 0 = .ok (.aload_n 0, 1) := by decide +kernel
theorem dX4_turn_1 : decode cX4_turn 1 = .ok (.dup, 1) := by decide +kernel
theorem dX4_turn_2 : decode cX4_turn 2 = .ok (.getfield 44, 3) := by decide +kernel
theorem dX4_turn_5 : decode cX4_turn 5 = .ok (.iconst 1, 1) := by decide +kernel
theorem dX4_turn_6 : decode cX4_turn 6 = .ok (.iload_n 1, 1) := by decide +kernel
theorem dX4_turn_7 : decode cX4_turn 7 = .ok (.ishl, 1) := by decide +kernel
theorem dX4_turn_8 : decode cX4_turn 8 = .ok (.ixor, 1) := by decide +kernel
theorem dX4_turn_9 : decode cX4_turn 9 = .ok (.putfield 44, 3) := by decide +kernel
theorem dX4_turn_12 : decode cX4_turn 12 = .ok (.return_, 1) := by decide +kernel
theorem dX4_settleOne_0 : decode cX4_settleOne 0 = .ok (.aload_n 0, 1) := by decide +kernel
theorem dX4_settleOne_1 : decode cX4_settleOne 1 = .ok (.getfield 15, 3) := by decide +kernel
theorem dX4_settleOne_4 : decode cX4_settleOne 4 = .ok (.iload_n 1, 1) := by decide +kernel
theorem dX4_settleOne_5 : decode cX4_settleOne 5 = .ok (.iaload, 1) := by decide +kernel
theorem dX4_settleOne_6 : decode cX4_settleOne 6 = .ok (.istore_n 3, 1) := by decide +kernel
theorem dX4_settleOne_7 : decode cX4_settleOne 7 = .ok (.aload_n 0, 1) := by decide +kernel
theorem dX4_settleOne_8 : decode cX4_settleOne 8 = .ok (.getfield 30, 3) := by decide +kernel
theorem dX4_settleOne_11 : decode cX4_settleOne 11 = .ok (.iload_n 1, 1) := by decide +kernel
theorem dX4_settleOne_12 : decode cX4_settleOne 12 = .ok (.iload_n 2, 1) := by decide +kernel
theorem dX4_settleOne_13 : decode cX4_settleOne 13 = .ok (.ifCond .eq 7, 3) := by decide +kernel
theorem dX4_settleOne_16 : decode cX4_settleOne 16 = .ok (.iconst 1, 1) := by decide +kernel
theorem dX4_settleOne_17 : decode cX4_settleOne 17 = .ok (.goto 4, 3) := by decide +kernel
theorem dX4_settleOne_20 : decode cX4_settleOne 20 = .ok (.iconst 2, 1) := by decide +kernel
theorem dX4_settleOne_21 : decode cX4_settleOne 21 = .ok (.iastore, 1) := by decide +kernel
theorem dX4_settleOne_22 : decode cX4_settleOne 22 = .ok (.aload_n 0, 1) := by decide +kernel
theorem dX4_settleOne_23 : decode cX4_settleOne 23 = .ok (.dup, 1) := by decide +kernel
theorem dX4_settleOne_24 : decode cX4_settleOne 24 = .ok (.getfield 44, 3) := by decide +kernel
theorem dX4_settleOne_27 : decode cX4_settleOne 27 = .ok (.iconst 1, 1) := by decide +kernel
theorem dX4_settleOne_28 : decode cX4_settleOne 28 = .ok (.iload_n 1, 1) := by decide +kernel
theorem dX4_settleOne_29 : decode cX4_settleOne 29 = .ok (.ishl, 1) := by decide +kernel
theorem dX4_settleOne_30 : decode cX4_settleOne 30 = .ok (.iconst (-1), 1) := by decide +kernel
theorem dX4_settleOne_31 : decode cX4_settleOne 31 = .ok (.ixor, 1) := by decide +kernel
theorem dX4_settleOne_32 : decode cX4_settleOne 32 = .ok (.iand, 1) := by decide +kernel
theorem dX4_settleOne_33 : decode cX4_settleOne 33 = .ok (.putfield 44, 3) := by decide +kernel
theorem dX4_settleOne_36 : decode cX4_settleOne 36 = .ok (.aload_n 0, 1) := by decide +kernel
theorem dX4_settleOne_37 : decode cX4_settleOne 37 = .ok (.getfield 9, 3) := by decide +kernel
theorem dX4_settleOne_40 : decode cX4_settleOne 40 = .ok (.iload_n 3, 1) := by decide +kernel
theorem dX4_settleOne_41 : decode cX4_settleOne 41 = .ok (.iload_n 2, 1) := by decide +kernel
theorem dX4_settleOne_42 : decode cX4_settleOne 42 = .ok (.ifCond .eq 19, 3) := by decide +kernel
theorem dX4_settleOne_45 : decode cX4_settleOne 45 = .ok (.bipush 10, 2) := by decide +kernel
theorem dX4_settleOne_47 : decode cX4_settleOne 47 = .ok (.aload_n 0, 1) := by decide +kernel
theorem dX4_settleOne_48 : decode cX4_settleOne 48 = .ok (.getfield 9, 3) := by decide +kernel
theorem dX4_settleOne_51 : decode cX4_settleOne 51 = .ok (.iload_n 3, 1) := by decide +kernel
theorem dX4_settleOne_52 : decode cX4_settleOne 52 = .ok (.iaload, 1) := by decide +kernel
theorem dX4_settleOne_53 : decode cX4_settleOne 53 = .ok (.iconst 1, 1) := by decide +kernel
theorem dX4_settleOne_54 : decode cX4_settleOne 54 = .ok (.iadd, 1) := by decide +kernel
theorem dX4_settleOne_55 : decode cX4_settleOne 55 = .ok (.invokestatic 53, 3) := by decide +kernel
theorem dX4_settleOne_58 : decode cX4_settleOne 58 = .ok (.goto 15, 3) := by decide +kernel
theorem dX4_settleOne_61 : decode cX4_settleOne 61 = .ok (.iconst 0, 1) := by decide +kernel
theorem dX4_settleOne_62 : decode cX4_settleOne 62 = .ok (.aload_n 0, 1) := by decide +kernel
theorem dX4_settleOne_63 : decode cX4_settleOne 63 = .ok (.getfield 9, 3) := by decide +kernel
theorem dX4_settleOne_66 : decode cX4_settleOne 66 = .ok (.iload_n 3, 1) := by decide +kernel
theorem dX4_settleOne_67 : decode cX4_settleOne 67 = .ok (.iaload, 1) := by decide +kernel
theorem dX4_settleOne_68 : decode cX4_settleOne 68 = .ok (.iconst 1, 1) := by decide +kernel
theorem dX4_settleOne_69 : decode cX4_settleOne 69 = .ok (.isub, 1) := by decide +kernel
theorem dX4_settleOne_70 : decode cX4_settleOne 70 = .ok (.invokestatic 59, 3) := by decide +kernel
theorem dX4_settleOne_73 : decode cX4_settleOne 73 = .ok (.iastore, 1) := by decide +kernel
theorem dX4_settleOne_74 : decode cX4_settleOne 74 = .ok (.return_, 1) := by decide +kernel
set_option maxRecDepth 20000 in
theorem ggX4_settleByDays_X4_isSettled : GoodIn wsX4_settleByDays wsX4_isSettled := goodIn_r _ [7, 8, 41, 42, 43, 44, 45, 46, 47, 48, 49, 50, 51, 52, 53] (by decide +kernel) (by decide +kernel)
set_option maxRecDepth 20000 in
theorem gX4_settleByDays_X4_isSettled : GoodIn wsX4_settleByDays (wsV RX4 62 RX4 yX4_isSettled wsX4_isSettled) := goodIn_app (goodIn_of _ (by decide +kernel)) ggX4_settleByDays_X4_isSettled
set_option maxRecDepth 20000 in
theorem ggX4_settleByDays_X4_weightOf : GoodIn wsX4_settleByDays wsX4_weightOf := goodIn_r _ [12, 13, 14, 15, 6, 16, 8, 17, 3, 4, 5, 7, 18, 19, 20, 21, 22, 23, 24, 25, 26, 27, 28, 29, 30, 31, 32, 41, 42, 43, 44, 45, 46, 47, 48, 49, 50, 51, 52, 53] (by decide +kernel) (by decide +kernel)
set_option maxRecDepth 20000 in
theorem gX4_settleByDays_X4_weightOf : GoodIn wsX4_settleByDays (wsV RX4 66 RX4 yX4_weightOf wsX4_weightOf) := goodIn_app (goodIn_of _ (by decide +kernel)) ggX4_settleByDays_X4_weightOf
set_option maxRecDepth 20000 in
theorem ggX4_settleByDays_X4_settleOne : GoodIn wsX4_settleByDays wsX4_settleOne := goodIn_r _ [36, 23, 8, 37, 22, 24, 25, 26, 27, 38, 39, 40, 41, 42, 43, 44, 45, 46, 47, 48, 49, 50, 51, 52, 53] (by decide +kernel) (by decide +kernel)
set_option maxRecDepth 20000 in
theorem gX4_settleByDays_X4_settleOne : GoodIn wsX4_settleByDays (wsV RX4 70 RX4 yX4_settleOne wsX4_settleOne) := goodIn_app (goodIn_of _ (by decide +kernel)) ggX4_settleByDays_X4_settleOne
theorem dX4_settleByDays_0 : decode cX4_settleByDays 0 = .ok (.iconst 0, 1) := by decide +kernel
theorem dX4_settleByDays_1 : decode cX4_settleByDays 1 = .ok (.istore_n 2, 1) := by decide +kernel
theorem dX4_settleByDays_2 : decode cX4_settleByDays 2 = .ok (.iload_n 2, 1) := by decide +kernel
theorem dX4_settleByDays_3 : decode cX4_settleByDays 3 = .ok (.bipush 9, 2) := by decide +kernel
theorem dX4_settleByDays_5 : decode cX4_settleByDays 5 = .ok (.if_icmp .gt 62, 3) := by decide +kernel
theorem dX4_settleByDays_8 : decode cX4_settleByDays 8 = .ok (.iconst 0, 1) := by decide +kernel
theorem dX4_settleByDays_9 : decode cX4_settleByDays 9 = .ok (.istore_n 3, 1) := by decide +kernel
theorem dX4_settleByDays_10 : decode cX4_settleByDays 10 = .ok (.iload_n 3, 1) := by decide +kernel
theorem dX4_settleByDays_11 : decode cX4_settleByDays 11 = .ok (.aload_n 0, 1) := by decide +kernel
theorem dX4_settleByDays_12 : decode cX4_settleByDays 12 = .ok (.getfield 41, 3) := by decide +kernel
theorem dX4_settleByDays_15 : decode cX4_settleByDays 15 = .ok (.if_icmp .ge 46, 3) := by decide +kernel
theorem dX4_settleByDays_18 : decode cX4_settleByDays 18 = .ok (.aload_n 0, 1) := by decide +kernel
theorem dX4_settleByDays_19 : decode cX4_settleByDays 19 = .ok (.getfield 21, 3) := by decide +kernel
theorem dX4_settleByDays_22 : decode cX4_settleByDays 22 = .ok (.iload_n 3, 1) := by decide +kernel
theorem dX4_settleByDays_23 : decode cX4_settleByDays 23 = .ok (.iaload, 1) := by decide +kernel
theorem dX4_settleByDays_24 : decode cX4_settleByDays 24 = .ok (.iload_n 2, 1) := by decide +kernel
theorem dX4_settleByDays_25 : decode cX4_settleByDays 25 = .ok (.if_icmp .ne 30, 3) := by decide +kernel
theorem dX4_settleByDays_28 : decode cX4_settleByDays 28 = .ok (.aload_n 0, 1) := by decide +kernel
theorem dX4_settleByDays_29 : decode cX4_settleByDays 29 = .ok (.iload_n 3, 1) := by decide +kernel
theorem dX4_settleByDays_30 : decode cX4_settleByDays 30 = .ok (.invokevirtual 62, 3) := by decide +kernel
theorem dX4_settleByDays_33 : decode cX4_settleByDays 33 = .ok (.ifCond .ne 22, 3) := by decide +kernel
theorem dX4_settleByDays_36 : decode cX4_settleByDays 36 = .ok (.aload_n 0, 1) := by decide +kernel
theorem dX4_settleByDays_37 : decode cX4_settleByDays 37 = .ok (.iload_n 3, 1) := by decide +kernel
theorem dX4_settleByDays_38 : decode cX4_settleByDays 38 = .ok (.aload_n 0, 1) := by decide +kernel
theorem dX4_settleByDays_39 : decode cX4_settleByDays 39 = .ok (.iload_n 3, 1) := by decide +kernel
theorem dX4_settleByDays_40 : decode cX4_settleByDays 40 = .ok (.invokevirtual 66, 3) := by decide +kernel
theorem dX4_settleByDays_43 : decode cX4_settleByDays 43 = .ok (.iload_n 1, 1) := by decide +kernel
theorem dX4_settleByDays_44 : decode cX4_settleByDays 44 = .ok (.if_icmp .lt 7, 3) := by decide +kernel
theorem dX4_settleByDays_47 : decode cX4_settleByDays 47 = .ok (.iconst 1, 1) := by decide +kernel
theorem dX4_settleByDays_48 : decode cX4_settleByDays 48 = .ok (.goto 4, 3) := by decide +kernel
theorem dX4_settleByDays_51 : decode cX4_settleByDays 51 = .ok (.iconst 0, 1) := by decide +kernel
theorem dX4_settleByDays_52 : decode cX4_settleByDays 52 = .ok (.invokevirtual 70, 3) := by decide +kernel
theorem dX4_settleByDays_55 : decode cX4_settleByDays 55 = .ok (.iinc 3 1, 3) := by decide +kernel
theorem dX4_settleByDays_58 : decode cX4_settleByDays 58 = .ok (.goto (-48), 3) := by decide +kernel
theorem dX4_settleByDays_61 : decode cX4_settleByDays 61 = .ok (.iinc 2 1, 3) := by decide +kernel
theorem dX4_settleByDays_64 : decode cX4_settleByDays 64 = .ok (.goto (-62), 3) := by decide +kernel
theorem dX4_settleByDays_67 : decode cX4_settleByDays 67 = .ok (.return_, 1) := by decide +kernel
theorem dX4_howManyKept_0 : decode cX4_howManyKept 0 = .ok (.iconst 0, 1) := by decide +kernel
theorem dX4_howManyKept_1 : decode cX4_howManyKept 1 = .ok (.istore_n 2, 1) := by decide +kernel
theorem dX4_howManyKept_2 : decode cX4_howManyKept 2 = .ok (.iconst 0, 1) := by decide +kernel
theorem dX4_howManyKept_3 : decode cX4_howManyKept 3 = .ok (.istore_n 3, 1) := by decide +kernel
theorem dX4_howManyKept_4 : decode cX4_howManyKept 4 = .ok (.iload_n 3, 1) := by decide +kernel
theorem dX4_howManyKept_5 : decode cX4_howManyKept 5 = .ok (.aload_n 0, 1) := by decide +kernel
theorem dX4_howManyKept_6 : decode cX4_howManyKept 6 = .ok (.getfield 41, 3) := by decide +kernel
theorem dX4_howManyKept_9 : decode cX4_howManyKept 9 = .ok (.if_icmp .ge 37, 3) := by decide +kernel
theorem dX4_howManyKept_12 : decode cX4_howManyKept 12 = .ok (.iload_n 2, 1) := by decide +kernel
theorem dX4_howManyKept_13 : decode cX4_howManyKept 13 = .ok (.aload_n 0, 1) := by decide +kernel
theorem dX4_howManyKept_14 : decode cX4_howManyKept 14 = .ok (.getfield 15, 3) := by decide +kernel
theorem dX4_howManyKept_17 : decode cX4_howManyKept 17 = .ok (.iload_n 3, 1) := by decide +kernel
theorem dX4_howManyKept_18 : decode cX4_howManyKept 18 = .ok (.iaload, 1) := by decide +kernel
theorem dX4_howManyKept_19 : decode cX4_howManyKept 19 = .ok (.iload_n 1, 1) := by decide +kernel
theorem dX4_howManyKept_20 : decode cX4_howManyKept 20 = .ok (.if_icmp .ne 17, 3) := by decide +kernel
theorem dX4_howManyKept_23 : decode cX4_howManyKept 23 = .ok (.aload_n 0, 1) := by decide +kernel
theorem dX4_howManyKept_24 : decode cX4_howManyKept 24 = .ok (.getfield 30, 3) := by decide +kernel
theorem dX4_howManyKept_27 : decode cX4_howManyKept 27 = .ok (.iload_n 3, 1) := by decide +kernel
theorem dX4_howManyKept_28 : decode cX4_howManyKept 28 = .ok (.iaload, 1) := by decide +kernel
theorem dX4_howManyKept_29 : decode cX4_howManyKept 29 = .ok (.iconst 1, 1) := by decide +kernel
theorem dX4_howManyKept_30 : decode cX4_howManyKept 30 = .ok (.if_icmp .ne 7, 3) := by decide +kernel
theorem dX4_howManyKept_33 : decode cX4_howManyKept 33 = .ok (.iconst 1, 1) := by decide +kernel
theorem dX4_howManyKept_34 : decode cX4_howManyKept 34 = .ok (.goto 4, 3) := by decide +kernel
theorem dX4_howManyKept_37 : decode cX4_howManyKept 37 = .ok (.iconst 0, 1) := by decide +kernel
theorem dX4_howManyKept_38 : decode cX4_howManyKept 38 = .ok (.iadd, 1) := by decide +kernel
theorem dX4_howManyKept_39 : decode cX4_howManyKept 39 = .ok (.istore_n 2, 1) := by decide +kernel
theorem dX4_howManyKept_40 : decode cX4_howManyKept 40 = .ok (.iinc 3 1, 3) := by decide +kernel
theorem dX4_howManyKept_43 : decode cX4_howManyKept 43 = .ok (.goto (-39), 3) := by decide +kernel
theorem dX4_howManyKept_46 : decode cX4_howManyKept 46 = .ok (.iload_n 2, 1) := by decide +kernel
theorem dX4_howManyKept_47 : decode cX4_howManyKept 47 = .ok (.ireturn, 1) := by decide +kernel
set_option maxRecDepth 20000 in
theorem ggX4_weightOf_X4_weightAfter : GoodIn wsX4_weightOf wsX4_weightAfter := goodIn_r _ [5, 6, 7, 8, 9, 10, 4, 11, 12, 13, 14, 15, 16, 17, 18, 19, 20, 21, 22, 23, 24, 25, 26, 27, 28, 29, 30, 31, 32, 33, 34, 35, 36, 37, 38, 39] (by decide +kernel) (by decide +kernel)
set_option maxRecDepth 20000 in
theorem gX4_weightOf_X4_weightAfter : GoodIn wsX4_weightOf (wsV RX4 74 RX4 yX4_weightAfter wsX4_weightAfter) := goodIn_app (goodIn_of _ (by decide +kernel)) ggX4_weightOf_X4_weightAfter
theorem dX4_weightOf_0 : decode cX4_weightOf 0 = .ok (.iconst 0, 1) := by decide +kernel
theorem dX4_weightOf_1 : decode cX4_weightOf 1 = .ok (.istore_n 2, 1) := by decide +kernel
theorem dX4_weightOf_2 : decode cX4_weightOf 2 = .ok (.iconst 0, 1) := by decide +kernel
theorem dX4_weightOf_3 : decode cX4_weightOf 3 = .ok (.istore_n 3, 1) := by decide +kernel
theorem dX4_weightOf_4 : decode cX4_weightOf 4 = .ok (.iload_n 3, 1) := by decide +kernel
theorem dX4_weightOf_5 : decode cX4_weightOf 5 = .ok (.iload_n 1, 1) := by decide +kernel
theorem dX4_weightOf_6 : decode cX4_weightOf 6 = .ok (.if_icmp .gt 16, 3) := by decide +kernel
theorem dX4_weightOf_9 : decode cX4_weightOf 9 = .ok (.aload_n 0, 1) := by decide +kernel
theorem dX4_weightOf_10 : decode cX4_weightOf 10 = .ok (.iload_n 3, 1) := by decide +kernel
theorem dX4_weightOf_11 : decode cX4_weightOf 11 = .ok (.iload_n 2, 1) := by decide +kernel
theorem dX4_weightOf_12 : decode cX4_weightOf 12 = .ok (.invokevirtual 74, 3) := by decide +kernel
theorem dX4_weightOf_15 : decode cX4_weightOf 15 = .ok (.istore_n 2, 1) := by decide +kernel
theorem dX4_weightOf_16 : decode cX4_weightOf 16 = .ok (.iinc 3 1, 3) := by decide +kernel
theorem dX4_weightOf_19 : decode cX4_weightOf 19 = .ok (.goto (-15), 3) := by decide +kernel
theorem dX4_weightOf_22 : decode cX4_weightOf 22 = .ok (.iload_n 2, 1) := by decide +kernel
theorem dX4_weightOf_23 : decode cX4_weightOf 23 = .ok (.ireturn, 1) := by decide +kernel
set_option maxRecDepth 20000 in
theorem ggX4_weightAfter_X4_isSettled : GoodIn wsX4_weightAfter wsX4_isSettled := goodIn_r _ [7, 1, 23, 24, 25, 26, 27, 28, 29, 30, 31, 32, 33, 34, 35] (by decide +kernel) (by decide +kernel)
set_option maxRecDepth 20000 in
theorem gX4_weightAfter_X4_isSettled : GoodIn wsX4_weightAfter (wsV RX4 62 RX4 yX4_isSettled wsX4_isSettled) := goodIn_app (goodIn_of _ (by decide +kernel)) ggX4_weightAfter_X4_isSettled
set_option maxRecDepth 20000 in
theorem ggX4_weightAfter_X4_weightIf : GoodIn wsX4_weightAfter wsX4_weightIf := goodIn_r _ [11, 12, 13, 14, 15, 16, 17, 18, 19, 20, 6, 21, 22, 23, 24, 25, 26, 27, 28, 29, 30, 31, 32, 33, 34, 35] (by decide +kernel) (by decide +kernel)
set_option maxRecDepth 20000 in
theorem gX4_weightAfter_X4_weightIf : GoodIn wsX4_weightAfter (wsV RX4 77 RX4 yX4_weightIf wsX4_weightIf) := goodIn_app (goodIn_of _ (by decide +kernel)) ggX4_weightAfter_X4_weightIf
theorem dX4_weightAfter_0 : decode cX4_weightAfter 0 = .ok (.aload_n 0, 1) := by decide +kernel
theorem dX4_weightAfter_1 : decode cX4_weightAfter 1 = .ok (.iload_n 1, 1) := by decide +kernel
theorem dX4_weightAfter_2 : decode cX4_weightAfter 2 = .ok (.invokevirtual 62, 3) := by decide +kernel
theorem dX4_weightAfter_5 : decode cX4_weightAfter 5 = .ok (.ifCond .eq 20, 3) := by decide +kernel
theorem dX4_weightAfter_8 : decode cX4_weightAfter 8 = .ok (.aload_n 0, 1) := by decide +kernel
theorem dX4_weightAfter_9 : decode cX4_weightAfter 9 = .ok (.getfield 30, 3) := by decide +kernel
theorem dX4_weightAfter_12 : decode cX4_weightAfter 12 = .ok (.iload_n 1, 1) := by decide +kernel
theorem dX4_weightAfter_13 : decode cX4_weightAfter 13 = .ok (.iaload, 1) := by decide +kernel
theorem dX4_weightAfter_14 : decode cX4_weightAfter 14 = .ok (.iconst 1, 1) := by decide +kernel
theorem dX4_weightAfter_15 : decode cX4_weightAfter 15 = .ok (.if_icmp .ne 8, 3) := by decide +kernel
theorem dX4_weightAfter_18 : decode cX4_weightAfter 18 = .ok (.bipush 20, 2) := by decide +kernel
theorem dX4_weightAfter_20 : decode cX4_weightAfter 20 = .ok (.goto 4, 3) := by decide +kernel
theorem dX4_weightAfter_23 : decode cX4_weightAfter 23 = .ok (.iconst 0, 1) := by decide +kernel
theorem dX4_weightAfter_24 : decode cX4_weightAfter 24 = .ok (.ireturn, 1) := by decide +kernel
theorem dX4_weightAfter_25 : decode cX4_weightAfter 25 = .ok (.aload_n 0, 1) := by decide +kernel
theorem dX4_weightAfter_26 : decode cX4_weightAfter 26 = .ok (.iload_n 1, 1) := by decide +kernel
theorem dX4_weightAfter_27 : decode cX4_weightAfter 27 = .ok (.aload_n 0, 1) := by decide +kernel
theorem dX4_weightAfter_28 : decode cX4_weightAfter 28 = .ok (.getfield 27, 3) := by decide +kernel
theorem dX4_weightAfter_31 : decode cX4_weightAfter 31 = .ok (.iload_n 1, 1) := by decide +kernel
theorem dX4_weightAfter_32 : decode cX4_weightAfter 32 = .ok (.iaload, 1) := by decide +kernel
theorem dX4_weightAfter_33 : decode cX4_weightAfter 33 = .ok (.iload_n 2, 1) := by decide +kernel
theorem dX4_weightAfter_34 : decode cX4_weightAfter 34 = .ok (.invokevirtual 77, 3) := by decide +kernel
theorem dX4_weightAfter_37 : decode cX4_weightAfter 37 = .ok (.ireturn, 1) := by decide +kernel
set_option maxRecDepth 20000 in
theorem ggX4_weightBy_X4_weightOf : GoodIn wsX4_weightBy wsX4_weightOf := goodIn_r _ [5, 6, 7, 8, 4, 9, 10, 11, 12, 13, 14, 15, 16, 17, 18, 19, 20, 21, 22, 23, 24, 25, 26, 27, 28, 29, 30, 31, 32, 33, 34, 35, 36, 37, 38, 39, 40, 41, 42, 43] (by decide +kernel) (by decide +kernel)
set_option maxRecDepth 20000 in
theorem gX4_weightBy_X4_weightOf : GoodIn wsX4_weightBy (wsV RX4 66 RX4 yX4_weightOf wsX4_weightOf) := goodIn_app (goodIn_of _ (by decide +kernel)) ggX4_weightBy_X4_weightOf
set_option maxRecDepth 20000 in
theorem ggX4_weightBy_X4_weightIf : GoodIn wsX4_weightBy wsX4_weightIf := goodIn_r _ [19, 20, 21, 22, 23, 24, 25, 26, 27, 28, 4, 29, 30, 31, 32, 33, 34, 35, 36, 37, 38, 39, 40, 41, 42, 43] (by decide +kernel) (by decide +kernel)
set_option maxRecDepth 20000 in
theorem gX4_weightBy_X4_weightIf : GoodIn wsX4_weightBy (wsV RX4 77 RX4 yX4_weightIf wsX4_weightIf) := goodIn_app (goodIn_of _ (by decide +kernel)) ggX4_weightBy_X4_weightIf
theorem dX4_weightBy_0 : decode cX4_weightBy 0 = .ok (.aload_n 0, 1) := by decide +kernel
theorem dX4_weightBy_1 : decode cX4_weightBy 1 = .ok (.iload_n 1, 1) := by decide +kernel
theorem dX4_weightBy_2 : decode cX4_weightBy 2 = .ok (.iload_n 2, 1) := by decide +kernel
theorem dX4_weightBy_3 : decode cX4_weightBy 3 = .ok (.iload_n 1, 1) := by decide +kernel
theorem dX4_weightBy_4 : decode cX4_weightBy 4 = .ok (.ifCond .ne 7, 3) := by decide +kernel
theorem dX4_weightBy_7 : decode cX4_weightBy 7 = .ok (.iconst 0, 1) := by decide +kernel
theorem dX4_weightBy_8 : decode cX4_weightBy 8 = .ok (.goto 10, 3) := by decide +kernel
theorem dX4_weightBy_11 : decode cX4_weightBy 11 = .ok (.aload_n 0, 1) := by decide +kernel
theorem dX4_weightBy_12 : decode cX4_weightBy 12 = .ok (.iload_n 1, 1) := by decide +kernel
theorem dX4_weightBy_13 : decode cX4_weightBy 13 = .ok (.iconst 1, 1) := by decide +kernel
theorem dX4_weightBy_14 : decode cX4_weightBy 14 = .ok (.isub, 1) := by decide +kernel
theorem dX4_weightBy_15 : decode cX4_weightBy 15 = .ok (.invokevirtual 66, 3) := by decide +kernel
theorem dX4_weightBy_18 : decode cX4_weightBy 18 = .ok (.invokevirtual 77, 3) := by decide +kernel
theorem dX4_weightBy_21 : decode cX4_weightBy 21 = .ok (.ireturn, 1) := by decide +kernel
set_option maxRecDepth 20000 in
theorem ggX4_weightIf_X4_plainWeight : GoodIn wsX4_weightIf wsX4_plainWeight := goodIn_r _ [11, 12, 13, 14, 15, 16, 17, 18, 19, 20, 21, 22, 23, 24, 25] (by decide +kernel) (by decide +kernel)
set_option maxRecDepth 20000 in
theorem gX4_weightIf_X4_plainWeight : GoodIn wsX4_weightIf (wsV RX4 81 RX4 yX4_plainWeight wsX4_plainWeight) := goodIn_app (goodIn_of _ (by decide +kernel)) ggX4_weightIf_X4_plainWeight
theorem dX4_weightIf_0 : decode cX4_weightIf 0 = .ok (.aload_n 0, 1) := by decide +kernel
theorem dX4_weightIf_1 : decode cX4_weightIf 1 = .ok (.iload_n 1, 1) := by decide +kernel
theorem dX4_weightIf_2 : decode cX4_weightIf 2 = .ok (.aload_n 0, 1) := by decide +kernel
theorem dX4_weightIf_3 : decode cX4_weightIf 3 = .ok (.getfield 9, 3) := by decide +kernel
theorem dX4_weightIf_6 : decode cX4_weightIf 6 = .ok (.aload_n 0, 1) := by decide +kernel
theorem dX4_weightIf_7 : decode cX4_weightIf 7 = .ok (.getfield 15, 3) := by decide +kernel
theorem dX4_weightIf_10 : decode cX4_weightIf 10 = .ok (.iload_n 1, 1) := by decide +kernel
theorem dX4_weightIf_11 : decode cX4_weightIf 11 = .ok (.iaload, 1) := by decide +kernel
theorem dX4_weightIf_12 : decode cX4_weightIf 12 = .ok (.iaload, 1) := by decide +kernel
theorem dX4_weightIf_13 : decode cX4_weightIf 13 = .ok (.invokevirtual 81, 3) := by decide +kernel
theorem dX4_weightIf_16 : decode cX4_weightIf 16 = .ok (.istore 4, 2) := by decide +kernel
theorem dX4_weightIf_18 : decode cX4_weightIf 18 = .ok (.iload_n 2, 1) := by decide +kernel
theorem dX4_weightIf_19 : decode cX4_weightIf 19 = .ok (.tableswitch 77 2 5 #[29, 46, 53, 63], 29) := by decide +kernel
theorem dX4_weightIf_48 : decode cX4_weightIf 48 = .ok (.iload_n 1, 1) := by decide +kernel
theorem dX4_weightIf_49 : decode cX4_weightIf 49 = .ok (.ifCond .ne 8, 3) := by decide +kernel
theorem dX4_weightIf_52 : decode cX4_weightIf 52 = .ok (.iload 4, 2) := by decide +kernel
theorem dX4_weightIf_54 : decode cX4_weightIf 54 = .ok (.goto 10, 3) := by decide +kernel
theorem dX4_weightIf_57 : decode cX4_weightIf 57 = .ok (.iload 4, 2) := by decide +kernel
theorem dX4_weightIf_59 : decode cX4_weightIf 59 = .ok (.iload_n 3, 1) := by decide +kernel
theorem dX4_weightIf_60 : decode cX4_weightIf 60 = .ok (.imul, 1) := by decide +kernel
theorem dX4_weightIf_61 : decode cX4_weightIf 61 = .ok (.bipush 20, 2) := by decide +kernel
theorem dX4_weightIf_63 : decode cX4_weightIf 63 = .ok (.idiv, 1) := by decide +kernel
theorem dX4_weightIf_64 : decode cX4_weightIf 64 = .ok (.ireturn, 1) := by decide +kernel
theorem dX4_weightIf_65 : decode cX4_weightIf 65 = .ok (.iload 4, 2) := by decide +kernel
theorem dX4_weightIf_67 : decode cX4_weightIf 67 = .ok (.iconst 1, 1) := by decide +kernel
theorem dX4_weightIf_68 : decode cX4_weightIf 68 = .ok (.iadd, 1) := by decide +kernel
theorem dX4_weightIf_69 : decode cX4_weightIf 69 = .ok (.iconst 2, 1) := by decide +kernel
theorem dX4_weightIf_70 : decode cX4_weightIf 70 = .ok (.idiv, 1) := by decide +kernel
theorem dX4_weightIf_71 : decode cX4_weightIf 71 = .ok (.ireturn, 1) := by decide +kernel
theorem dX4_weightIf_72 : decode cX4_weightIf 72 = .ok (.bipush 20, 2) := by decide +kernel
theorem dX4_weightIf_74 : decode cX4_weightIf 74 = .ok (.iconst 2, 1) := by decide +kernel
theorem dX4_weightIf_75 : decode cX4_weightIf 75 = .ok (.iload 4, 2) := by decide +kernel
theorem dX4_weightIf_77 : decode cX4_weightIf 77 = .ok (.imul, 1) := by decide +kernel
theorem dX4_weightIf_78 : decode cX4_weightIf 78 = .ok (.invokestatic 53, 3) := by decide +kernel
theorem dX4_weightIf_81 : decode cX4_weightIf 81 = .ok (.ireturn, 1) := by decide +kernel
theorem dX4_weightIf_82 : decode cX4_weightIf 82 = .ok (.iload_n 1, 1) := by decide +kernel
theorem dX4_weightIf_83 : decode cX4_weightIf 83 = .ok (.ifCond .ne 8, 3) := by decide +kernel
theorem dX4_weightIf_86 : decode cX4_weightIf 86 = .ok (.bipush 20, 2) := by decide +kernel
theorem dX4_weightIf_88 : decode cX4_weightIf 88 = .ok (.goto 7, 3) := by decide +kernel
theorem dX4_weightIf_91 : decode cX4_weightIf 91 = .ok (.bipush 20, 2) := by decide +kernel
theorem dX4_weightIf_93 : decode cX4_weightIf 93 = .ok (.iload_n 3, 1) := by decide +kernel
theorem dX4_weightIf_94 : decode cX4_weightIf 94 = .ok (.isub, 1) := by decide +kernel
theorem dX4_weightIf_95 : decode cX4_weightIf 95 = .ok (.ireturn, 1) := by decide +kernel
theorem dX4_weightIf_96 : decode cX4_weightIf 96 = .ok (.iload 4, 2) := by decide +kernel
theorem dX4_weightIf_98 : decode cX4_weightIf 98 = .ok (.ireturn, 1) := by decide +kernel
theorem dX4_plainWeight_0 : decode cX4_plainWeight 0 = .ok (.aload_n 0, 1) := by decide +kernel
theorem dX4_plainWeight_1 : decode cX4_plainWeight 1 = .ok (.getfield 24, 3) := by decide +kernel
theorem dX4_plainWeight_4 : decode cX4_plainWeight 4 = .ok (.iload_n 1, 1) := by decide +kernel
theorem dX4_plainWeight_5 : decode cX4_plainWeight 5 = .ok (.iaload, 1) := by decide +kernel
theorem dX4_plainWeight_6 : decode cX4_plainWeight 6 = .ok (.iload_n 2, 1) := by decide +kernel
theorem dX4_plainWeight_7 : decode cX4_plainWeight 7 = .ok (.imul, 1) := by decide +kernel
theorem dX4_plainWeight_8 : decode cX4_plainWeight 8 = .ok (.bipush 10, 2) := by decide +kernel
theorem dX4_plainWeight_10 : decode cX4_plainWeight 10 = .ok (.idiv, 1) := by decide +kernel
theorem dX4_plainWeight_11 : decode cX4_plainWeight 11 = .ok (.ireturn, 1) := by decide +kernel
set_option maxRecDepth 20000 in
theorem ggX4_bestKindOf_X4_weightBy : GoodIn wsX4_bestKindOf wsX4_weightBy := goodIn_r _ [5, 6, 7, 8, 4, 9, 10, 11, 12, 13, 14, 15, 16, 17, 18, 19, 20, 21, 22, 23, 24, 25, 26, 27, 28, 29, 30, 31, 32, 33, 34, 35, 36, 37, 38, 39, 40, 41, 42, 43, 44, 45, 46, 47] (by decide +kernel) (by decide +kernel)
set_option maxRecDepth 20000 in
theorem gX4_bestKindOf_X4_weightBy : GoodIn wsX4_bestKindOf (wsV RX4 84 RX4 yX4_weightBy wsX4_weightBy) := goodIn_app (goodIn_of _ (by decide +kernel)) ggX4_bestKindOf_X4_weightBy
theorem dX4_bestKindOf_0 : decode cX4_bestKindOf 0 = .ok (.iconst 1, 1) := by decide +kernel
theorem dX4_bestKindOf_1 : decode cX4_bestKindOf 1 = .ok (.istore_n 2, 1) := by decide +kernel
theorem dX4_bestKindOf_2 : decode cX4_bestKindOf 2 = .ok (.iconst 2, 1) := by decide +kernel
theorem dX4_bestKindOf_3 : decode cX4_bestKindOf 3 = .ok (.istore_n 3, 1) := by decide +kernel
theorem dX4_bestKindOf_4 : decode cX4_bestKindOf 4 = .ok (.iload_n 3, 1) := by decide +kernel
theorem dX4_bestKindOf_5 : decode cX4_bestKindOf 5 = .ok (.iconst 5, 1) := by decide +kernel
theorem dX4_bestKindOf_6 : decode cX4_bestKindOf 6 = .ok (.if_icmp .gt 26, 3) := by decide +kernel
theorem dX4_bestKindOf_9 : decode cX4_bestKindOf 9 = .ok (.aload_n 0, 1) := by decide +kernel
theorem dX4_bestKindOf_10 : decode cX4_bestKindOf 10 = .ok (.iload_n 1, 1) := by decide +kernel
theorem dX4_bestKindOf_11 : decode cX4_bestKindOf 11 = .ok (.iload_n 3, 1) := by decide +kernel
theorem dX4_bestKindOf_12 : decode cX4_bestKindOf 12 = .ok (.invokevirtual 84, 3) := by decide +kernel
theorem dX4_bestKindOf_15 : decode cX4_bestKindOf 15 = .ok (.aload_n 0, 1) := by decide +kernel
theorem dX4_bestKindOf_16 : decode cX4_bestKindOf 16 = .ok (.iload_n 1, 1) := by decide +kernel
theorem dX4_bestKindOf_17 : decode cX4_bestKindOf 17 = .ok (.iload_n 2, 1) := by decide +kernel
theorem dX4_bestKindOf_18 : decode cX4_bestKindOf 18 = .ok (.invokevirtual 84, 3) := by decide +kernel
theorem dX4_bestKindOf_21 : decode cX4_bestKindOf 21 = .ok (.if_icmp .le 5, 3) := by decide +kernel
theorem dX4_bestKindOf_24 : decode cX4_bestKindOf 24 = .ok (.iload_n 3, 1) := by decide +kernel
theorem dX4_bestKindOf_25 : decode cX4_bestKindOf 25 = .ok (.istore_n 2, 1) := by decide +kernel
theorem dX4_bestKindOf_26 : decode cX4_bestKindOf 26 = .ok (.iinc 3 1, 3) := by decide +kernel
theorem dX4_bestKindOf_29 : decode cX4_bestKindOf 29 = .ok (.goto (-25), 3) := by decide +kernel
theorem dX4_bestKindOf_32 : decode cX4_bestKindOf 32 = .ok (.iload_n 2, 1) := by decide +kernel
theorem dX4_bestKindOf_33 : decode cX4_bestKindOf 33 = .ok (.ireturn, 1) := by decide +kernel
set_option maxRecDepth 20000 in
theorem ggX4_readingOf_X4_weightAfter : GoodIn wsX4_readingOf wsX4_weightAfter := goodIn_r _ [8, 9, 10, 11, 12, 13, 7, 14, 15, 16, 17, 18, 19, 20, 21, 22, 23, 24, 25, 26, 27, 28, 29, 33, 34, 35, 36, 37, 38, 39, 40, 41, 42, 43, 44, 45] (by decide +kernel) (by decide +kernel)
set_option maxRecDepth 20000 in
theorem gX4_readingOf_X4_weightAfter : GoodIn wsX4_readingOf (wsV RX4 74 RX4 yX4_weightAfter wsX4_weightAfter) := goodIn_app (goodIn_of _ (by decide +kernel)) ggX4_readingOf_X4_weightAfter
set_option maxRecDepth 20000 in
theorem ggX4_readingOf_X6_reading : GoodIn wsX4_readingOf wsX6_reading := goodIn_r _ [32] (by decide +kernel) (by decide +kernel)
set_option maxRecDepth 20000 in
theorem gX4_readingOf_X6_reading_n87 : GoodIn wsX4_readingOf (wsX6_reading) := ggX4_readingOf_X6_reading
theorem dX4_readingOf_0 : decode cX4_readingOf 0 = .ok (.aload_n 0, 1) := by decide +kernel
theorem dX4_readingOf_1 : decode cX4_readingOf 1 = .ok (.getfield 47, 3) := by decide +kernel
theorem dX4_readingOf_4 : decode cX4_readingOf 4 = .ok (.istore_n 2, 1) := by decide +kernel
theorem dX4_readingOf_5 : decode cX4_readingOf 5 = .ok (.iconst 0, 1) := by decide +kernel
theorem dX4_readingOf_6 : decode cX4_readingOf 6 = .ok (.istore_n 3, 1) := by decide +kernel
theorem dX4_readingOf_7 : decode cX4_readingOf 7 = .ok (.iconst 0, 1) := by decide +kernel
theorem dX4_readingOf_8 : decode cX4_readingOf 8 = .ok (.istore 4, 2) := by decide +kernel
theorem dX4_readingOf_10 : decode cX4_readingOf 10 = .ok (.iload 4, 2) := by decide +kernel
theorem dX4_readingOf_12 : decode cX4_readingOf 12 = .ok (.aload_n 0, 1) := by decide +kernel
theorem dX4_readingOf_13 : decode cX4_readingOf 13 = .ok (.getfield 41, 3) := by decide +kernel
theorem dX4_readingOf_16 : decode cX4_readingOf 16 = .ok (.if_icmp .ge 35, 3) := by decide +kernel
theorem dX4_readingOf_19 : decode cX4_readingOf 19 = .ok (.aload_n 0, 1) := by decide +kernel
theorem dX4_readingOf_20 : decode cX4_readingOf 20 = .ok (.iload 4, 2) := by decide +kernel
theorem dX4_readingOf_22 : decode cX4_readingOf 22 = .ok (.iload_n 3, 1) := by decide +kernel
theorem dX4_readingOf_23 : decode cX4_readingOf 23 = .ok (.invokevirtual 74, 3) := by decide +kernel
theorem dX4_readingOf_26 : decode cX4_readingOf 26 = .ok (.istore_n 3, 1) := by decide +kernel
theorem dX4_readingOf_27 : decode cX4_readingOf 27 = .ok (.iload_n 2, 1) := by decide +kernel
theorem dX4_readingOf_28 : decode cX4_readingOf 28 = .ok (.iload_n 1, 1) := by decide +kernel
theorem dX4_readingOf_29 : decode cX4_readingOf 29 = .ok (.iload 4, 2) := by decide +kernel
theorem dX4_readingOf_31 : decode cX4_readingOf 31 = .ok (.ishr, 1) := by decide +kernel
theorem dX4_readingOf_32 : decode cX4_readingOf 32 = .ok (.iconst 1, 1) := by decide +kernel
theorem dX4_readingOf_33 : decode cX4_readingOf 33 = .ok (.iand, 1) := by decide +kernel
theorem dX4_readingOf_34 : decode cX4_readingOf 34 = .ok (.iconst 1, 1) := by decide +kernel
theorem dX4_readingOf_35 : decode cX4_readingOf 35 = .ok (.if_icmp .ne 7, 3) := by decide +kernel
theorem dX4_readingOf_38 : decode cX4_readingOf 38 = .ok (.iload_n 3, 1) := by decide +kernel
theorem dX4_readingOf_39 : decode cX4_readingOf 39 = .ok (.goto 4, 3) := by decide +kernel
theorem dX4_readingOf_42 : decode cX4_readingOf 42 = .ok (.iconst 0, 1) := by decide +kernel
theorem dX4_readingOf_43 : decode cX4_readingOf 43 = .ok (.iadd, 1) := by decide +kernel
theorem dX4_readingOf_44 : decode cX4_readingOf 44 = .ok (.istore_n 2, 1) := by decide +kernel
theorem dX4_readingOf_45 : decode cX4_readingOf 45 = .ok (.iinc 4 1, 3) := by decide +kernel
theorem dX4_readingOf_48 : decode cX4_readingOf 48 = .ok (.goto (-38), 3) := by decide +kernel
theorem dX4_readingOf_51 : decode cX4_readingOf 51 = .ok (.iload_n 2, 1) := by decide +kernel
theorem dX4_readingOf_52 : decode cX4_readingOf 52 = .ok (.aload_n 0, 1) := by decide +kernel
theorem dX4_readingOf_53 : decode cX4_readingOf 53 = .ok (.getfield 50, 3) := by decide +kernel
theorem dX4_readingOf_56 : decode cX4_readingOf 56 = .ok (.invokestatic 87, 3) := by decide +kernel
theorem dX4_readingOf_59 : decode cX4_readingOf 59 = .ok (.ireturn, 1) := by decide +kernel
set_option maxRecDepth 20000 in
theorem ggX4_doClash_X4_isSettled : GoodIn wsX4_doClash wsX4_isSettled := goodIn_r _ [8, 9, 10, 11, 12, 13, 14, 15, 16, 17, 18, 19, 20, 21, 22] (by decide +kernel) (by decide +kernel)
set_option maxRecDepth 20000 in
theorem gX4_doClash_X4_isSettled : GoodIn wsX4_doClash (wsV RX4 62 RX4 yX4_isSettled wsX4_isSettled) := goodIn_app (goodIn_of _ (by decide +kernel)) ggX4_doClash_X4_isSettled
theorem dX4_doClash_0 : decode cX4_doClash 0 = .ok (.aload_n 0, 1) := by decide +kernel
theorem dX4_doClash_1 : decode cX4_doClash 1 = .ok (.iload_n 1, 1) := by decide +kernel
theorem dX4_doClash_2 : decode cX4_doClash 2 = .ok (.invokevirtual 62, 3) := by decide +kernel
theorem dX4_doClash_5 : decode cX4_doClash 5 = .ok (.ifCond .ne 60, 3) := by decide +kernel
theorem dX4_doClash_8 : decode cX4_doClash 8 = .ok (.aload_n 0, 1) := by decide +kernel
theorem dX4_doClash_9 : decode cX4_doClash 9 = .ok (.iload_n 2, 1) := by decide +kernel
theorem dX4_doClash_10 : decode cX4_doClash 10 = .ok (.invokevirtual 62, 3) := by decide +kernel
theorem dX4_doClash_13 : decode cX4_doClash 13 = .ok (.ifCond .ne 52, 3) := by decide +kernel
theorem dX4_doClash_16 : decode cX4_doClash 16 = .ok (.aload_n 0, 1) := by decide +kernel
theorem dX4_doClash_17 : decode cX4_doClash 17 = .ok (.getfield 15, 3) := by decide +kernel
theorem dX4_doClash_20 : decode cX4_doClash 20 = .ok (.iload_n 1, 1) := by decide +kernel
theorem dX4_doClash_21 : decode cX4_doClash 21 = .ok (.iaload, 1) := by decide +kernel
theorem dX4_doClash_22 : decode cX4_doClash 22 = .ok (.aload_n 0, 1) := by decide +kernel
theorem dX4_doClash_23 : decode cX4_doClash 23 = .ok (.getfield 15, 3) := by decide +kernel
theorem dX4_doClash_26 : decode cX4_doClash 26 = .ok (.iload_n 2, 1) := by decide +kernel
theorem dX4_doClash_27 : decode cX4_doClash 27 = .ok (.iaload, 1) := by decide +kernel
theorem dX4_doClash_28 : decode cX4_doClash 28 = .ok (.if_icmp .ne 37, 3) := by decide +kernel
theorem dX4_doClash_31 : decode cX4_doClash 31 = .ok (.aload_n 0, 1) := by decide +kernel
theorem dX4_doClash_32 : decode cX4_doClash 32 = .ok (.getfield 21, 3) := by decide +kernel
theorem dX4_doClash_35 : decode cX4_doClash 35 = .ok (.iload_n 1, 1) := by decide +kernel
theorem dX4_doClash_36 : decode cX4_doClash 36 = .ok (.iaload, 1) := by decide +kernel
theorem dX4_doClash_37 : decode cX4_doClash 37 = .ok (.aload_n 0, 1) := by decide +kernel
theorem dX4_doClash_38 : decode cX4_doClash 38 = .ok (.getfield 21, 3) := by decide +kernel
theorem dX4_doClash_41 : decode cX4_doClash 41 = .ok (.iload_n 2, 1) := by decide +kernel
theorem dX4_doClash_42 : decode cX4_doClash 42 = .ok (.iaload, 1) := by decide +kernel
theorem dX4_doClash_43 : decode cX4_doClash 43 = .ok (.if_icmp .ne 22, 3) := by decide +kernel
theorem dX4_doClash_46 : decode cX4_doClash 46 = .ok (.aload_n 0, 1) := by decide +kernel
theorem dX4_doClash_47 : decode cX4_doClash 47 = .ok (.getfield 18, 3) := by decide +kernel
theorem dX4_doClash_50 : decode cX4_doClash 50 = .ok (.iload_n 1, 1) := by decide +kernel
theorem dX4_doClash_51 : decode cX4_doClash 51 = .ok (.iaload, 1) := by decide +kernel
theorem dX4_doClash_52 : decode cX4_doClash 52 = .ok (.aload_n 0, 1) := by decide +kernel
theorem dX4_doClash_53 : decode cX4_doClash 53 = .ok (.getfield 18, 3) := by decide +kernel
theorem dX4_doClash_56 : decode cX4_doClash 56 = .ok (.iload_n 2, 1) := by decide +kernel
theorem dX4_doClash_57 : decode cX4_doClash 57 = .ok (.iaload, 1) := by decide +kernel
theorem dX4_doClash_58 : decode cX4_doClash 58 = .ok (.if_icmp .eq 7, 3) := by decide +kernel
theorem dX4_doClash_61 : decode cX4_doClash 61 = .ok (.iconst 1, 1) := by decide +kernel
theorem dX4_doClash_62 : decode cX4_doClash 62 = .ok (.goto 4, 3) := by decide +kernel
theorem dX4_doClash_65 : decode cX4_doClash 65 = .ok (.iconst 0, 1) := by decide +kernel
theorem dX4_doClash_66 : decode cX4_doClash 66 = .ok (.ireturn, 1) := by decide +kernel
set_option maxRecDepth 20000 in
theorem ggX4_howManyPairs_X4_doClash : GoodIn wsX4_howManyPairs wsX4_doClash := goodIn_r _ [6, 7, 8, 9, 10, 11, 12, 5, 13, 14, 15, 16, 17, 18, 19, 20, 21, 22, 23, 24, 25, 26, 27] (by decide +kernel) (by decide +kernel)
set_option maxRecDepth 20000 in
theorem gX4_howManyPairs_X4_doClash : GoodIn wsX4_howManyPairs (wsV RX4 90 RX4 yX4_doClash wsX4_doClash) := goodIn_app (goodIn_of _ (by decide +kernel)) ggX4_howManyPairs_X4_doClash
theorem dX4_howManyPairs_0 : decode cX4_howManyPairs 0 = .ok (.iconst 0, 1) := by decide +kernel
theorem dX4_howManyPairs_1 : decode cX4_howManyPairs 1 = .ok (.istore_n 1, 1) := by decide +kernel
theorem dX4_howManyPairs_2 : decode cX4_howManyPairs 2 = .ok (.iconst 0, 1) := by decide +kernel
theorem dX4_howManyPairs_3 : decode cX4_howManyPairs 3 = .ok (.istore_n 2, 1) := by decide +kernel
theorem dX4_howManyPairs_4 : decode cX4_howManyPairs 4 = .ok (.iload_n 2, 1) := by decide +kernel
theorem dX4_howManyPairs_5 : decode cX4_howManyPairs 5 = .ok (.aload_n 0, 1) := by decide +kernel
theorem dX4_howManyPairs_6 : decode cX4_howManyPairs 6 = .ok (.getfield 41, 3) := by decide +kernel
theorem dX4_howManyPairs_9 : decode cX4_howManyPairs 9 = .ok (.if_icmp .ge 44, 3) := by decide +kernel
theorem dX4_howManyPairs_12 : decode cX4_howManyPairs 12 = .ok (.iload_n 2, 1) := by decide +kernel
theorem dX4_howManyPairs_13 : decode cX4_howManyPairs 13 = .ok (.iconst 1, 1) := by decide +kernel
theorem dX4_howManyPairs_14 : decode cX4_howManyPairs 14 = .ok (.iadd, 1) := by decide +kernel
theorem dX4_howManyPairs_15 : decode cX4_howManyPairs 15 = .ok (.istore_n 3, 1) := by decide +kernel
theorem dX4_howManyPairs_16 : decode cX4_howManyPairs 16 = .ok (.iload_n 3, 1) := by decide +kernel
theorem dX4_howManyPairs_17 : decode cX4_howManyPairs 17 = .ok (.aload_n 0, 1) := by decide +kernel
theorem dX4_howManyPairs_18 : decode cX4_howManyPairs 18 = .ok (.getfield 41, 3) := by decide +kernel
theorem dX4_howManyPairs_21 : decode cX4_howManyPairs 21 = .ok (.if_icmp .ge 26, 3) := by decide +kernel
theorem dX4_howManyPairs_24 : decode cX4_howManyPairs 24 = .ok (.iload_n 1, 1) := by decide +kernel
theorem dX4_howManyPairs_25 : decode cX4_howManyPairs 25 = .ok (.aload_n 0, 1) := by decide +kernel
theorem dX4_howManyPairs_26 : decode cX4_howManyPairs 26 = .ok (.iload_n 2, 1) := by decide +kernel
theorem dX4_howManyPairs_27 : decode cX4_howManyPairs 27 = .ok (.iload_n 3, 1) := by decide +kernel
theorem dX4_howManyPairs_28 : decode cX4_howManyPairs 28 = .ok (.invokevirtual 90, 3) := by decide +kernel
theorem dX4_howManyPairs_31 : decode cX4_howManyPairs 31 = .ok (.ifCond .eq 7, 3) := by decide +kernel
theorem dX4_howManyPairs_34 : decode cX4_howManyPairs 34 = .ok (.iconst 1, 1) := by decide +kernel
theorem dX4_howManyPairs_35 : decode cX4_howManyPairs 35 = .ok (.goto 4, 3) := by decide +kernel
theorem dX4_howManyPairs_38 : decode cX4_howManyPairs 38 = .ok (.iconst 0, 1) := by decide +kernel
theorem dX4_howManyPairs_39 : decode cX4_howManyPairs 39 = .ok (.iadd, 1) := by decide +kernel
theorem dX4_howManyPairs_40 : decode cX4_howManyPairs 40 = .ok (.istore_n 1, 1) := by decide +kernel
theorem dX4_howManyPairs_41 : decode cX4_howManyPairs 41 = .ok (.iinc 3 1, 3) := by decide +kernel
theorem dX4_howManyPairs_44 : decode cX4_howManyPairs 44 = .ok (.goto (-28), 3) := by decide +kernel
theorem dX4_howManyPairs_47 : decode cX4_howManyPairs 47 = .ok (.iinc 2 1, 3) := by decide +kernel
theorem dX4_howManyPairs_50 : decode cX4_howManyPairs 50 = .ok (.goto (-46), 3) := by decide +kernel
theorem dX4_howManyPairs_53 : decode cX4_howManyPairs 53 = .ok (.iload_n 1, 1) := by decide +kernel
theorem dX4_howManyPairs_54 : decode cX4_howManyPairs 54 = .ok (.ireturn, 1) := by decide +kernel
set_option maxRecDepth 20000 in
theorem ggX4_firstPair_X4_doClash : GoodIn wsX4_firstPair wsX4_doClash := goodIn_r _ [7, 8, 9, 10, 11, 12, 13, 6, 14, 15, 16, 17, 18, 19, 20, 21, 22, 23, 24, 25, 26, 27, 28] (by decide +kernel) (by decide +kernel)
set_option maxRecDepth 20000 in
theorem gX4_firstPair_X4_doClash : GoodIn wsX4_firstPair (wsV RX4 90 RX4 yX4_doClash wsX4_doClash) := goodIn_app (goodIn_of _ (by decide +kernel)) ggX4_firstPair_X4_doClash
theorem dX4_firstPair_0 : decode cX4_firstPair 0 = .ok (.iconst 0, 1) := by decide +kernel
theorem dX4_firstPair_1 : decode cX4_firstPair 1 = .ok (.istore_n 1, 1) := by decide +kernel
theorem dX4_firstPair_2 : decode cX4_firstPair 2 = .ok (.iload_n 1, 1) := by decide +kernel
theorem dX4_firstPair_3 : decode cX4_firstPair 3 = .ok (.aload_n 0, 1) := by decide +kernel
theorem dX4_firstPair_4 : decode cX4_firstPair 4 = .ok (.getfield 41, 3) := by decide +kernel
theorem dX4_firstPair_7 : decode cX4_firstPair 7 = .ok (.if_icmp .ge 43, 3) := by decide +kernel
theorem dX4_firstPair_10 : decode cX4_firstPair 10 = .ok (.iload_n 1, 1) := by decide +kernel
theorem dX4_firstPair_11 : decode cX4_firstPair 11 = .ok (.iconst 1, 1) := by decide +kernel
theorem dX4_firstPair_12 : decode cX4_firstPair 12 = .ok (.iadd, 1) := by decide +kernel
theorem dX4_firstPair_13 : decode cX4_firstPair 13 = .ok (.istore_n 2, 1) := by decide +kernel
theorem dX4_firstPair_14 : decode cX4_firstPair 14 = .ok (.iload_n 2, 1) := by decide +kernel
theorem dX4_firstPair_15 : decode cX4_firstPair 15 = .ok (.aload_n 0, 1) := by decide +kernel
theorem dX4_firstPair_16 : decode cX4_firstPair 16 = .ok (.getfield 41, 3) := by decide +kernel
theorem dX4_firstPair_19 : decode cX4_firstPair 19 = .ok (.if_icmp .ge 25, 3) := by decide +kernel
theorem dX4_firstPair_22 : decode cX4_firstPair 22 = .ok (.aload_n 0, 1) := by decide +kernel
theorem dX4_firstPair_23 : decode cX4_firstPair 23 = .ok (.iload_n 1, 1) := by decide +kernel
theorem dX4_firstPair_24 : decode cX4_firstPair 24 = .ok (.iload_n 2, 1) := by decide +kernel
theorem dX4_firstPair_25 : decode cX4_firstPair 25 = .ok (.invokevirtual 90, 3) := by decide +kernel
theorem dX4_firstPair_28 : decode cX4_firstPair 28 = .ok (.ifCond .eq 10, 3) := by decide +kernel
theorem dX4_firstPair_31 : decode cX4_firstPair 31 = .ok (.bipush 8, 2) := by decide +kernel
theorem dX4_firstPair_33 : decode cX4_firstPair 33 = .ok (.iload_n 1, 1) := by decide +kernel
theorem dX4_firstPair_34 : decode cX4_firstPair 34 = .ok (.imul, 1) := by decide +kernel
theorem dX4_firstPair_35 : decode cX4_firstPair 35 = .ok (.iload_n 2, 1) := by decide +kernel
theorem dX4_firstPair_36 : decode cX4_firstPair 36 = .ok (.iadd, 1) := by decide +kernel
theorem dX4_firstPair_37 : decode cX4_firstPair 37 = .ok (.ireturn, 1) := by decide +kernel
theorem dX4_firstPair_38 : decode cX4_firstPair 38 = .ok (.iinc 2 1, 3) := by decide +kernel
theorem dX4_firstPair_41 : decode cX4_firstPair 41 = .ok (.goto (-27), 3) := by decide +kernel
theorem dX4_firstPair_44 : decode cX4_firstPair 44 = .ok (.iinc 1 1, 3) := by decide +kernel
theorem dX4_firstPair_47 : decode cX4_firstPair 47 = .ok (.goto (-45), 3) := by decide +kernel
theorem dX4_firstPair_50 : decode cX4_firstPair 50 = .ok (.ldc 94, 2) := by decide +kernel
theorem dX4_firstPair_52 : decode cX4_firstPair 52 = .ok (.ireturn, 1) := by decide +kernel
set_option maxRecDepth 20000 in
theorem ggX4_isPlainToCome_X4_isSettled : GoodIn wsX4_isPlainToCome wsX4_isSettled := goodIn_r _ [7, 8, 9, 10, 11, 12, 13, 14, 15, 16, 17, 18, 19, 20, 21] (by decide +kernel) (by decide +kernel)
set_option maxRecDepth 20000 in
theorem gX4_isPlainToCome_X4_isSettled : GoodIn wsX4_isPlainToCome (wsV RX4 62 RX4 yX4_isSettled wsX4_isSettled) := goodIn_app (goodIn_of _ (by decide +kernel)) ggX4_isPlainToCome_X4_isSettled
theorem dX4_isPlainToCome_0 : decode cX4_isPlainToCome 0 = .ok (.aload_n 0, 1) := by decide +kernel
theorem dX4_isPlainToCome_1 : decode cX4_isPlainToCome 1 = .ok (.getfield 15, 3) := by decide +kernel
theorem dX4_isPlainToCome_4 : decode cX4_isPlainToCome 4 = .ok (.iload_n 1, 1) := by decide +kernel
theorem dX4_isPlainToCome_5 : decode cX4_isPlainToCome 5 = .ok (.iaload, 1) := by decide +kernel
theorem dX4_isPlainToCome_6 : decode cX4_isPlainToCome 6 = .ok (.iload_n 2, 1) := by decide +kernel
theorem dX4_isPlainToCome_7 : decode cX4_isPlainToCome 7 = .ok (.if_icmp .ne 25, 3) := by decide +kernel
theorem dX4_isPlainToCome_10 : decode cX4_isPlainToCome 10 = .ok (.aload_n 0, 1) := by decide +kernel
theorem dX4_isPlainToCome_11 : decode cX4_isPlainToCome 11 = .ok (.getfield 27, 3) := by decide +kernel
theorem dX4_isPlainToCome_14 : decode cX4_isPlainToCome 14 = .ok (.iload_n 1, 1) := by decide +kernel
theorem dX4_isPlainToCome_15 : decode cX4_isPlainToCome 15 = .ok (.iaload, 1) := by decide +kernel
theorem dX4_isPlainToCome_16 : decode cX4_isPlainToCome 16 = .ok (.iconst 1, 1) := by decide +kernel
theorem dX4_isPlainToCome_17 : decode cX4_isPlainToCome 17 = .ok (.if_icmp .ne 15, 3) := by decide +kernel
theorem dX4_isPlainToCome_20 : decode cX4_isPlainToCome 20 = .ok (.aload_n 0, 1) := by decide +kernel
theorem dX4_isPlainToCome_21 : decode cX4_isPlainToCome 21 = .ok (.iload_n 1, 1) := by decide +kernel
theorem dX4_isPlainToCome_22 : decode cX4_isPlainToCome 22 = .ok (.invokevirtual 62, 3) := by decide +kernel
theorem dX4_isPlainToCome_25 : decode cX4_isPlainToCome 25 = .ok (.ifCond .ne 7, 3) := by decide +kernel
theorem dX4_isPlainToCome_28 : decode cX4_isPlainToCome 28 = .ok (.iconst 1, 1) := by decide +kernel
theorem dX4_isPlainToCome_29 : decode cX4_isPlainToCome 29 = .ok (.goto 4, 3) := by decide +kernel
theorem dX4_isPlainToCome_32 : decode cX4_isPlainToCome 32 = .ok (.iconst 0, 1) := by decide +kernel
theorem dX4_isPlainToCome_33 : decode cX4_isPlainToCome 33 = .ok (.ireturn, 1) := by decide +kernel
set_option maxRecDepth 20000 in
theorem ggX4_howManyPlain_X4_isPlainToCome : GoodIn wsX4_howManyPlain wsX4_isPlainToCome := goodIn_r _ [6, 7, 8, 9, 10, 11, 5, 12, 13, 14, 15, 16, 17, 18, 19, 20, 21, 22, 23, 24, 25, 26] (by decide +kernel) (by decide +kernel)
set_option maxRecDepth 20000 in
theorem gX4_howManyPlain_X4_isPlainToCome : GoodIn wsX4_howManyPlain (wsV RX4 95 RX4 yX4_isPlainToCome wsX4_isPlainToCome) := goodIn_app (goodIn_of _ (by decide +kernel)) ggX4_howManyPlain_X4_isPlainToCome
theorem dX4_howManyPlain_0 : decode cX4_howManyPlain 0 = .ok (.iconst 0, 1) := by decide +kernel
theorem dX4_howManyPlain_1 : decode cX4_howManyPlain 1 = .ok (.istore_n 2, 1) := by decide +kernel
theorem dX4_howManyPlain_2 : decode cX4_howManyPlain 2 = .ok (.iconst 0, 1) := by decide +kernel
theorem dX4_howManyPlain_3 : decode cX4_howManyPlain 3 = .ok (.istore_n 3, 1) := by decide +kernel
theorem dX4_howManyPlain_4 : decode cX4_howManyPlain 4 = .ok (.iload_n 3, 1) := by decide +kernel
theorem dX4_howManyPlain_5 : decode cX4_howManyPlain 5 = .ok (.aload_n 0, 1) := by decide +kernel
theorem dX4_howManyPlain_6 : decode cX4_howManyPlain 6 = .ok (.getfield 41, 3) := by decide +kernel
theorem dX4_howManyPlain_9 : decode cX4_howManyPlain 9 = .ok (.if_icmp .ge 26, 3) := by decide +kernel
theorem dX4_howManyPlain_12 : decode cX4_howManyPlain 12 = .ok (.iload_n 2, 1) := by decide +kernel
theorem dX4_howManyPlain_13 : decode cX4_howManyPlain 13 = .ok (.aload_n 0, 1) := by decide +kernel
theorem dX4_howManyPlain_14 : decode cX4_howManyPlain 14 = .ok (.iload_n 3, 1) := by decide +kernel
theorem dX4_howManyPlain_15 : decode cX4_howManyPlain 15 = .ok (.iload_n 1, 1) := by decide +kernel
theorem dX4_howManyPlain_16 : decode cX4_howManyPlain 16 = .ok (.invokevirtual 95, 3) := by decide +kernel
theorem dX4_howManyPlain_19 : decode cX4_howManyPlain 19 = .ok (.ifCond .eq 7, 3) := by decide +kernel
theorem dX4_howManyPlain_22 : decode cX4_howManyPlain 22 = .ok (.iconst 1, 1) := by decide +kernel
theorem dX4_howManyPlain_23 : decode cX4_howManyPlain 23 = .ok (.goto 4, 3) := by decide +kernel
theorem dX4_howManyPlain_26 : decode cX4_howManyPlain 26 = .ok (.iconst 0, 1) := by decide +kernel
theorem dX4_howManyPlain_27 : decode cX4_howManyPlain 27 = .ok (.iadd, 1) := by decide +kernel
theorem dX4_howManyPlain_28 : decode cX4_howManyPlain 28 = .ok (.istore_n 2, 1) := by decide +kernel
theorem dX4_howManyPlain_29 : decode cX4_howManyPlain 29 = .ok (.iinc 3 1, 3) := by decide +kernel
theorem dX4_howManyPlain_32 : decode cX4_howManyPlain 32 = .ok (.goto (-28), 3) := by decide +kernel
theorem dX4_howManyPlain_35 : decode cX4_howManyPlain 35 = .ok (.iload_n 2, 1) := by decide +kernel
theorem dX4_howManyPlain_36 : decode cX4_howManyPlain 36 = .ok (.ireturn, 1) := by decide +kernel
set_option maxRecDepth 20000 in
theorem ggX4_plainWeigh_X4_isPlainToCome : GoodIn wsX4_plainWeigh wsX4_isPlainToCome := goodIn_r _ [6, 7, 8, 9, 10, 11, 5, 12, 13, 19, 20, 21, 22, 23, 24, 25, 26, 27, 28, 29, 30, 31] (by decide +kernel) (by decide +kernel)
set_option maxRecDepth 20000 in
theorem gX4_plainWeigh_X4_isPlainToCome : GoodIn wsX4_plainWeigh (wsV RX4 95 RX4 yX4_isPlainToCome wsX4_isPlainToCome) := goodIn_app (goodIn_of _ (by decide +kernel)) ggX4_plainWeigh_X4_isPlainToCome
set_option maxRecDepth 20000 in
theorem ggX4_plainWeigh_X4_plainWeight : GoodIn wsX4_plainWeigh wsX4_plainWeight := goodIn_r _ [17, 18, 19, 20, 21, 22, 23, 24, 25, 26, 27, 28, 29, 30, 31] (by decide +kernel) (by decide +kernel)
set_option maxRecDepth 20000 in
theorem gX4_plainWeigh_X4_plainWeight : GoodIn wsX4_plainWeigh (wsV RX4 81 RX4 yX4_plainWeight wsX4_plainWeight) := goodIn_app (goodIn_of _ (by decide +kernel)) ggX4_plainWeigh_X4_plainWeight
theorem dX4_plainWeigh_0 : decode cX4_plainWeigh 0 = .ok (.iload 4, 2) := by decide +kernel
theorem dX4_plainWeigh_2 : decode cX4_plainWeigh 2 = .ok (.istore 5, 2) := by decide +kernel
theorem dX4_plainWeigh_4 : decode cX4_plainWeigh 4 = .ok (.iconst 0, 1) := by decide +kernel
theorem dX4_plainWeigh_5 : decode cX4_plainWeigh 5 = .ok (.istore 6, 2) := by decide +kernel
theorem dX4_plainWeigh_7 : decode cX4_plainWeigh 7 = .ok (.iload 6, 2) := by decide +kernel
theorem dX4_plainWeigh_9 : decode cX4_plainWeigh 9 = .ok (.aload_n 0, 1) := by decide +kernel
theorem dX4_plainWeigh_10 : decode cX4_plainWeigh 10 = .ok (.getfield 41, 3) := by decide +kernel
theorem dX4_plainWeigh_13 : decode cX4_plainWeigh 13 = .ok (.if_icmp .ge 38, 3) := by decide +kernel
theorem dX4_plainWeigh_16 : decode cX4_plainWeigh 16 = .ok (.aload_n 0, 1) := by decide +kernel
theorem dX4_plainWeigh_17 : decode cX4_plainWeigh 17 = .ok (.iload 6, 2) := by decide +kernel
theorem dX4_plainWeigh_19 : decode cX4_plainWeigh 19 = .ok (.iload_n 1, 1) := by decide +kernel
theorem dX4_plainWeigh_20 : decode cX4_plainWeigh 20 = .ok (.invokevirtual 95, 3) := by decide +kernel
theorem dX4_plainWeigh_23 : decode cX4_plainWeigh 23 = .ok (.ifCond .eq 22, 3) := by decide +kernel
theorem dX4_plainWeigh_26 : decode cX4_plainWeigh 26 = .ok (.aload_n 3, 1) := by decide +kernel
theorem dX4_plainWeigh_27 : decode cX4_plainWeigh 27 = .ok (.iload 5, 2) := by decide +kernel
theorem dX4_plainWeigh_29 : decode cX4_plainWeigh 29 = .ok (.iaload, 1) := by decide +kernel
theorem dX4_plainWeigh_30 : decode cX4_plainWeigh 30 = .ok (.aload_n 0, 1) := by decide +kernel
theorem dX4_plainWeigh_31 : decode cX4_plainWeigh 31 = .ok (.iload 6, 2) := by decide +kernel
theorem dX4_plainWeigh_33 : decode cX4_plainWeigh 33 = .ok (.iload_n 2, 1) := by decide +kernel
theorem dX4_plainWeigh_34 : decode cX4_plainWeigh 34 = .ok (.invokevirtual 81, 3) := by decide +kernel
theorem dX4_plainWeigh_37 : decode cX4_plainWeigh 37 = .ok (.if_icmp .eq 5, 3) := by decide +kernel
theorem dX4_plainWeigh_40 : decode cX4_plainWeigh 40 = .ok (.iconst 0, 1) := by decide +kernel
theorem dX4_plainWeigh_41 : decode cX4_plainWeigh 41 = .ok (.ireturn, 1) := by decide +kernel
theorem dX4_plainWeigh_42 : decode cX4_plainWeigh 42 = .ok (.iinc 5 1, 3) := by decide +kernel
theorem dX4_plainWeigh_45 : decode cX4_plainWeigh 45 = .ok (.iinc 6 1, 3) := by decide +kernel
theorem dX4_plainWeigh_48 : decode cX4_plainWeigh 48 = .ok (.goto (-41), 3) := by decide +kernel
theorem dX4_plainWeigh_51 : decode cX4_plainWeigh 51 = .ok (.iconst 1, 1) := by decide +kernel
theorem dX4_plainWeigh_52 : decode cX4_plainWeigh 52 = .ok (.ireturn, 1) := by decide +kernel
theorem dX5_init_0 : decode cX5_init 0 = .ok (.aload_n 0, 1) := by decide +kernel
theorem dX5_init_1 : decode cX5_init 1 = .ok (.invokespecial 3, 3) := by decide +kernel
theorem dX5_init_4 : decode cX5_init 4 = .ok (.aload_n 0, 1) := by decide +kernel
theorem dX5_init_5 : decode cX5_init 5 = .ok (.bipush 120, 2) := by decide +kernel
theorem dX5_init_7 : decode cX5_init 7 = .ok (.newarray .int, 2) := by decide +kernel
theorem dX5_init_9 : decode cX5_init 9 = .ok (.putfield 11, 3) := by decide +kernel
theorem dX5_init_12 : decode cX5_init 12 = .ok (.return_, 1) := by decide +kernel
theorem dX5_isFull_0 : decode cX5_isFull 0 = .ok (.aload_n 0, 1) := by decide +kernel
theorem dX5_isFull_1 : decode cX5_isFull 1 = .ok (.getfield 15, 3) := by decide +kernel
theorem dX5_isFull_4 : decode cX5_isFull 4 = .ok (.bipush 120, 2) := by decide +kernel
theorem dX5_isFull_6 : decode cX5_isFull 6 = .ok (.if_icmp .lt 7, 3) := by decide +kernel
theorem dX5_isFull_9 : decode cX5_isFull 9 = .ok (.iconst 1, 1) := by decide +kernel
theorem dX5_isFull_10 : decode cX5_isFull 10 = .ok (.goto 4, 3) := by decide +kernel
theorem dX5_isFull_13 : decode cX5_isFull 13 = .ok (.iconst 0, 1) := by decide +kernel
theorem dX5_isFull_14 : decode cX5_isFull 14 = .ok (.ireturn, 1) := by decide +kernel
set_option maxRecDepth 20000 in
theorem ggX5_add_X5_isFull : GoodIn wsX5_add wsX5_isFull := goodIn_r _ [7, 2, 8, 9, 10, 11] (by decide +kernel) (by decide +kernel)
set_option maxRecDepth 20000 in
theorem gX5_add_X5_isFull : GoodIn wsX5_add (wsV RX5 19 RX5 yX5_isFull wsX5_isFull) := goodIn_app (goodIn_of _ (by decide +kernel)) ggX5_add_X5_isFull
theorem dX5_add_0 : decode cX5_add 0 = .ok (.aload_n 0, 1) := by decide +kernel
theorem dX5_add_1 : decode cX5_add 1 = .ok (.invokevirtual 19, 3) := by decide +kernel
theorem dX5_add_4 : decode cX5_add 4 = .ok (.ifCond .ne 23, 3) := by decide +kernel
theorem dX5_add_7 : decode cX5_add 7 = .ok (.aload_n 0, 1) := by decide +kernel
theorem dX5_add_8 : decode cX5_add 8 = .ok (.getfield 11, 3) := by decide +kernel
theorem dX5_add_11 : decode cX5_add 11 = .ok (.aload_n 0, 1) := by decide +kernel
theorem dX5_add_12 : decode cX5_add 12 = .ok (.getfield 15, 3) := by decide +kernel
theorem dX5_add_15 : decode cX5_add 15 = .ok (.iload_n 1, 1) := by decide +kernel
theorem dX5_add_16 : decode cX5_add 16 = .ok (.iastore, 1) := by decide +kernel
theorem dX5_add_17 : decode cX5_add 17 = .ok (.aload_n 0, 1) := by decide +kernel
theorem dX5_add_18 : decode cX5_add 18 = .ok (.dup, 1) := by decide +kernel
theorem dX5_add_19 : decode cX5_add 19 = .ok (.getfield 15, 3) := by decide +kernel
theorem dX5_add_22 : decode cX5_add 22 = .ok (.iconst 1, 1) := by decide +kernel
theorem dX5_add_23 : decode cX5_add 23 = .ok (.iadd, 1) := by decide +kernel
theorem dX5_add_24 : decode cX5_add 24 = .ok (.putfield 15, 3) := by decide +kernel
theorem dX5_add_27 : decode cX5_add 27 = .ok (.aload_n 0, 1) := by decide +kernel
theorem dX5_add_28 : decode cX5_add 28 = .ok (.getfield 15, 3) := by decide +kernel
theorem dX5_add_31 : decode cX5_add 31 = .ok (.ireturn, 1) := by decide +kernel
theorem dX5_faultPlace_0 : decode cX5_faultPlace 0 = .ok (.aload_n 0, 1) := by decide +kernel
theorem dX5_faultPlace_1 : decode cX5_faultPlace 1 = .ok (.getfield 23, 3) := by decide +kernel
theorem dX5_faultPlace_4 : decode cX5_faultPlace 4 = .ok (.ireturn, 1) := by decide +kernel
set_option maxRecDepth 20000 in
theorem ggX5_readInto_X4_clear : GoodIn wsX5_readInto wsX4_clear := goodIn_r _ [9, 10, 11, 12, 13, 14, 65, 66, 67, 68, 69, 70, 71, 72, 73, 74, 75, 76, 77] (by decide +kernel) (by decide +kernel)
set_option maxRecDepth 20000 in
theorem gX5_readInto_X4_clear : GoodIn wsX5_readInto (wsV RX5 29 RX4 yX4_clear wsX4_clear) := goodIn_app (goodIn_of _ (by decide +kernel)) ggX5_readInto_X4_clear
set_option maxRecDepth 20000 in
theorem ggX5_readInto_X5_readLaw : GoodIn wsX5_readInto wsX5_readLaw := goodIn_r _ [19, 20, 21, 22, 23, 24, 18, 25, 2, 1, 3, 4, 26, 27, 28, 29, 30, 31, 32, 33, 34, 35, 36, 37, 65, 66, 67, 68, 69, 70, 71, 72, 73, 74, 75, 76, 77, 61, 62, 63, 64] (by decide +kernel) (by decide +kernel)
set_option maxRecDepth 20000 in
theorem gX5_readInto_X5_readLaw : GoodIn wsX5_readInto (wsV RX5 34 RX5 yX5_readLaw wsX5_readLaw) := goodIn_app (goodIn_of _ (by decide +kernel)) ggX5_readInto_X5_readLaw
set_option maxRecDepth 20000 in
theorem ggX5_readInto_X5_readPart : GoodIn wsX5_readInto wsX5_readPart := goodIn_r _ [41, 42, 43, 44, 45, 18, 46, 26, 27, 28, 29, 2, 47, 48, 49, 50, 1, 51, 30, 31, 32, 33, 4, 34, 35, 36, 37, 3, 22, 23, 24, 25, 52, 53, 54, 55, 56, 57, 58, 59, 60, 65, 66, 67, 68, 69, 70, 71, 72, 73, 74, 75, 76, 77, 61, 62, 63, 64] (by decide +kernel) (by decide +kernel)
set_option maxRecDepth 20000 in
theorem gX5_readInto_X5_readPart : GoodIn wsX5_readInto (wsV RX5 38 RX5 yX5_readPart wsX5_readPart) := goodIn_app (goodIn_of _ (by decide +kernel)) ggX5_readInto_X5_readPart
theorem dX5_readInto_0 : decode cX5_readInto 0 = .ok (.aload_n 0, 1) := by decide +kernel
theorem dX5_readInto_1 : decode cX5_readInto 1 = .ok (.iconst 0, 1) := by decide +kernel
theorem dX5_readInto_2 : decode cX5_readInto 2 = .ok (.putfield 23, 3) := by decide +kernel
theorem dX5_readInto_5 : decode cX5_readInto 5 = .ok (.aload_n 0, 1) := by decide +kernel
theorem dX5_readInto_6 : decode cX5_readInto 6 = .ok (.iconst 0, 1) := by decide +kernel
theorem dX5_readInto_7 : decode cX5_readInto 7 = .ok (.putfield 26, 3) := by decide +kernel
theorem dX5_readInto_10 : decode cX5_readInto 10 = .ok (.aload_n 1, 1) := by decide +kernel
theorem dX5_readInto_11 : decode cX5_readInto 11 = .ok (.invokevirtual 29, 3) := by decide +kernel
theorem dX5_readInto_14 : decode cX5_readInto 14 = .ok (.aload_n 0, 1) := by decide +kernel
theorem dX5_readInto_15 : decode cX5_readInto 15 = .ok (.aload_n 1, 1) := by decide +kernel
theorem dX5_readInto_16 : decode cX5_readInto 16 = .ok (.invokevirtual 34, 3) := by decide +kernel
theorem dX5_readInto_19 : decode cX5_readInto 19 = .ok (.iconst 0, 1) := by decide +kernel
theorem dX5_readInto_20 : decode cX5_readInto 20 = .ok (.istore_n 2, 1) := by decide +kernel
theorem dX5_readInto_21 : decode cX5_readInto 21 = .ok (.iload_n 2, 1) := by decide +kernel
theorem dX5_readInto_22 : decode cX5_readInto 22 = .ok (.bipush 120, 2) := by decide +kernel
theorem dX5_readInto_24 : decode cX5_readInto 24 = .ok (.if_icmp .ge 41, 3) := by decide +kernel
theorem dX5_readInto_27 : decode cX5_readInto 27 = .ok (.aload_n 0, 1) := by decide +kernel
theorem dX5_readInto_28 : decode cX5_readInto 28 = .ok (.getfield 26, 3) := by decide +kernel
theorem dX5_readInto_31 : decode cX5_readInto 31 = .ok (.ifCond .ne 34, 3) := by decide +kernel
theorem dX5_readInto_34 : decode cX5_readInto 34 = .ok (.aload_n 0, 1) := by decide +kernel
theorem dX5_readInto_35 : decode cX5_readInto 35 = .ok (.getfield 23, 3) := by decide +kernel
theorem dX5_readInto_38 : decode cX5_readInto 38 = .ok (.aload_n 0, 1) := by decide +kernel
theorem dX5_readInto_39 : decode cX5_readInto 39 = .ok (.getfield 15, 3) := by decide +kernel
theorem dX5_readInto_42 : decode cX5_readInto 42 = .ok (.if_icmp .ge 23, 3) := by decide +kernel
theorem dX5_readInto_45 : decode cX5_readInto 45 = .ok (.aload_n 0, 1) := by decide +kernel
theorem dX5_readInto_46 : decode cX5_readInto 46 = .ok (.aload_n 1, 1) := by decide +kernel
theorem dX5_readInto_47 : decode cX5_readInto 47 = .ok (.aload_n 0, 1) := by decide +kernel
theorem dX5_readInto_48 : decode cX5_readInto 48 = .ok (.getfield 11, 3) := by decide +kernel
theorem dX5_readInto_51 : decode cX5_readInto 51 = .ok (.aload_n 0, 1) := by decide +kernel
theorem dX5_readInto_52 : decode cX5_readInto 52 = .ok (.getfield 23, 3) := by decide +kernel
theorem dX5_readInto_55 : decode cX5_readInto 55 = .ok (.iaload, 1) := by decide +kernel
theorem dX5_readInto_56 : decode cX5_readInto 56 = .ok (.invokevirtual 38, 3) := by decide +kernel
theorem dX5_readInto_59 : decode cX5_readInto 59 = .ok (.iinc 2 1, 3) := by decide +kernel
theorem dX5_readInto_62 : decode cX5_readInto 62 = .ok (.goto (-41), 3) := by decide +kernel
theorem dX5_readInto_65 : decode cX5_readInto 65 = .ok (.aload_n 0, 1) := by decide +kernel
theorem dX5_readInto_66 : decode cX5_readInto 66 = .ok (.iconst 0, 1) := by decide +kernel
theorem dX5_readInto_67 : decode cX5_readInto 67 = .ok (.putfield 15, 3) := by decide +kernel
theorem dX5_readInto_70 : decode cX5_readInto 70 = .ok (.aload_n 0, 1) := by decide +kernel
theorem dX5_readInto_71 : decode cX5_readInto 71 = .ok (.getfield 26, 3) := by decide +kernel
theorem dX5_readInto_74 : decode cX5_readInto 74 = .ok (.ireturn, 1) := by decide +kernel
set_option maxRecDepth 20000 in
theorem ggX5_readLaw_X5_takeSign : GoodIn wsX5_readLaw wsX5_takeSign := goodIn_r _ [7, 8, 9, 10, 11, 12, 13, 14, 6, 15, 37, 38, 39, 40] (by decide +kernel) (by decide +kernel)
set_option maxRecDepth 20000 in
theorem gX5_readLaw_X5_takeSign : GoodIn wsX5_readLaw (wsV RX5 42 RX5 yX5_takeSign wsX5_takeSign) := goodIn_app (goodIn_of _ (by decide +kernel)) ggX5_readLaw_X5_takeSign
set_option maxRecDepth 20000 in
theorem ggX5_readLaw_X5_takeNumber : GoodIn wsX5_readLaw wsX5_takeNumber := goodIn_r _ [19, 8, 9, 11, 20, 21, 22, 6, 23, 10, 12, 13, 14, 15, 37, 38, 39, 40] (by decide +kernel) (by decide +kernel)
set_option maxRecDepth 20000 in
theorem gX5_readLaw_X5_takeNumber : GoodIn wsX5_readLaw (wsV RX5 46 RX5 yX5_takeNumber wsX5_takeNumber) := goodIn_app (goodIn_of _ (by decide +kernel)) ggX5_readLaw_X5_takeNumber
theorem dX5_readLaw_0 : decode cX5_readLaw 0 = .ok (.aload_n 0, 1) := by decide +kernel
theorem dX5_readLaw_1 : decode cX5_readLaw 1 = .ok (.bipush 115, 2) := by decide +kernel
theorem dX5_readLaw_3 : decode cX5_readLaw 3 = .ok (.invokevirtual 42, 3) := by decide +kernel
theorem dX5_readLaw_6 : decode cX5_readLaw 6 = .ok (.aload_n 1, 1) := by decide +kernel
theorem dX5_readLaw_7 : decode cX5_readLaw 7 = .ok (.aload_n 0, 1) := by decide +kernel
theorem dX5_readLaw_8 : decode cX5_readLaw 8 = .ok (.iconst 0, 1) := by decide +kernel
theorem dX5_readLaw_9 : decode cX5_readLaw 9 = .ok (.bipush 9, 2) := by decide +kernel
theorem dX5_readLaw_11 : decode cX5_readLaw 11 = .ok (.invokevirtual 46, 3) := by decide +kernel
theorem dX5_readLaw_14 : decode cX5_readLaw 14 = .ok (.putfield 50, 3) := by decide +kernel
theorem dX5_readLaw_17 : decode cX5_readLaw 17 = .ok (.aload_n 0, 1) := by decide +kernel
theorem dX5_readLaw_18 : decode cX5_readLaw 18 = .ok (.bipush 44, 2) := by decide +kernel
theorem dX5_readLaw_20 : decode cX5_readLaw 20 = .ok (.invokevirtual 42, 3) := by decide +kernel
theorem dX5_readLaw_23 : decode cX5_readLaw 23 = .ok (.aload_n 1, 1) := by decide +kernel
theorem dX5_readLaw_24 : decode cX5_readLaw 24 = .ok (.aload_n 0, 1) := by decide +kernel
theorem dX5_readLaw_25 : decode cX5_readLaw 25 = .ok (.iconst 1, 1) := by decide +kernel
theorem dX5_readLaw_26 : decode cX5_readLaw 26 = .ok (.iconst 5, 1) := by decide +kernel
theorem dX5_readLaw_27 : decode cX5_readLaw 27 = .ok (.invokevirtual 46, 3) := by decide +kernel
theorem dX5_readLaw_30 : decode cX5_readLaw 30 = .ok (.putfield 53, 3) := by decide +kernel
theorem dX5_readLaw_33 : decode cX5_readLaw 33 = .ok (.aload_n 0, 1) := by decide +kernel
theorem dX5_readLaw_34 : decode cX5_readLaw 34 = .ok (.bipush 59, 2) := by decide +kernel
theorem dX5_readLaw_36 : decode cX5_readLaw 36 = .ok (.invokevirtual 42, 3) := by decide +kernel
theorem dX5_readLaw_39 : decode cX5_readLaw 39 = .ok (.return_, 1) := by decide +kernel
set_option maxRecDepth 20000 in
theorem ggX5_readPart_X5_kindOfSort : GoodIn wsX5_readPart wsX5_kindOfSort := goodIn_r _ [6] (by decide +kernel) (by decide +kernel)
set_option maxRecDepth 20000 in
theorem gX5_readPart_X5_kindOfSort : GoodIn wsX5_readPart (va_wsS RX5 56 yX5_kindOfSort wsX5_kindOfSort) := goodIn_app (goodIn_of _ (by decide +kernel)) ggX5_readPart_X5_kindOfSort
set_option maxRecDepth 20000 in
theorem ggX5_readPart_X5_meet : GoodIn wsX5_readPart wsX5_meet := goodIn_r _ [10, 11, 54, 55, 56, 57] (by decide +kernel) (by decide +kernel)
set_option maxRecDepth 20000 in
theorem gX5_readPart_X5_meet : GoodIn wsX5_readPart (wsV RX5 63 RX5 yX5_meet wsX5_meet) := goodIn_app (goodIn_of _ (by decide +kernel)) ggX5_readPart_X5_meet
set_option maxRecDepth 20000 in
theorem ggX5_readPart_X5_readGiver : GoodIn wsX5_readPart wsX5_readGiver := goodIn_r _ [15, 16, 17, 2, 18, 19, 20, 5, 21, 11, 22, 23, 24, 25, 26, 27, 7, 8, 9, 10, 28, 29, 30, 31, 54, 55, 56, 57, 41, 42, 43, 44, 45, 46, 47, 48, 49, 50, 51, 52, 53] (by decide +kernel) (by decide +kernel)
set_option maxRecDepth 20000 in
theorem gX5_readPart_X5_readGiver : GoodIn wsX5_readPart (wsV RX5 69 RX5 yX5_readGiver wsX5_readGiver) := goodIn_app (goodIn_of _ (by decide +kernel)) ggX5_readPart_X5_readGiver
set_option maxRecDepth 20000 in
theorem ggX5_readPart_X5_readPromise : GoodIn wsX5_readPart wsX5_readPromise := goodIn_r _ [35, 1, 16, 36, 37, 2, 38, 39, 40, 18, 19, 20, 5, 21, 11, 22, 23, 24, 25, 26, 27, 7, 8, 9, 10, 28, 29, 30, 31, 41, 42, 43, 44, 45, 46, 47, 48, 49, 50, 51, 52, 53, 54, 55, 56, 57] (by decide +kernel) (by decide +kernel)
set_option maxRecDepth 20000 in
theorem gX5_readPart_X5_readPromise : GoodIn wsX5_readPart (wsV RX5 72 RX5 yX5_readPromise wsX5_readPromise) := goodIn_app (goodIn_of _ (by decide +kernel)) ggX5_readPart_X5_readPromise
theorem dX5_readPart_0 : decode cX5_readPart 0 = .ok (.iload_n 2, 1) := by decide +kernel
theorem dX5_readPart_1 : decode cX5_readPart 1 = .ok (.invokestatic 56, 3) := by decide +kernel
theorem dX5_readPart_4 : decode cX5_readPart 4 = .ok (.istore_n 3, 1) := by decide +kernel
theorem dX5_readPart_5 : decode cX5_readPart 5 = .ok (.iload_n 2, 1) := by decide +kernel
theorem dX5_readPart_6 : decode cX5_readPart 6 = .ok (.bipush 103, 2) := by decide +kernel
theorem dX5_readPart_8 : decode cX5_readPart 8 = .ok (.if_icmp .ne 14, 3) := by decide +kernel
theorem dX5_readPart_11 : decode cX5_readPart 11 = .ok (.aload_n 1, 1) := by decide +kernel
theorem dX5_readPart_12 : decode cX5_readPart 12 = .ok (.getfield 60, 3) := by decide +kernel
theorem dX5_readPart_15 : decode cX5_readPart 15 = .ok (.ifCond .ne 7, 3) := by decide +kernel
theorem dX5_readPart_18 : decode cX5_readPart 18 = .ok (.iconst 1, 1) := by decide +kernel
theorem dX5_readPart_19 : decode cX5_readPart 19 = .ok (.goto 4, 3) := by decide +kernel
theorem dX5_readPart_22 : decode cX5_readPart 22 = .ok (.iconst 0, 1) := by decide +kernel
theorem dX5_readPart_23 : decode cX5_readPart 23 = .ok (.istore 4, 2) := by decide +kernel
theorem dX5_readPart_25 : decode cX5_readPart 25 = .ok (.iload 4, 2) := by decide +kernel
theorem dX5_readPart_27 : decode cX5_readPart 27 = .ok (.ifCond .ne 15, 3) := by decide +kernel
theorem dX5_readPart_30 : decode cX5_readPart 30 = .ok (.iload_n 3, 1) := by decide +kernel
theorem dX5_readPart_31 : decode cX5_readPart 31 = .ok (.ifCond .ne 11, 3) := by decide +kernel
theorem dX5_readPart_34 : decode cX5_readPart 34 = .ok (.aload_n 0, 1) := by decide +kernel
theorem dX5_readPart_35 : decode cX5_readPart 35 = .ok (.iconst 1, 1) := by decide +kernel
theorem dX5_readPart_36 : decode cX5_readPart 36 = .ok (.invokevirtual 63, 3) := by decide +kernel
theorem dX5_readPart_39 : decode cX5_readPart 39 = .ok (.goto 55, 3) := by decide +kernel
theorem dX5_readPart_42 : decode cX5_readPart 42 = .ok (.iload 4, 2) := by decide +kernel
theorem dX5_readPart_44 : decode cX5_readPart 44 = .ok (.ifCond .eq 14, 3) := by decide +kernel
theorem dX5_readPart_47 : decode cX5_readPart 47 = .ok (.aload_n 1, 1) := by decide +kernel
theorem dX5_readPart_48 : decode cX5_readPart 48 = .ok (.getfield 66, 3) := by decide +kernel
theorem dX5_readPart_51 : decode cX5_readPart 51 = .ok (.iconst 4, 1) := by decide +kernel
theorem dX5_readPart_52 : decode cX5_readPart 52 = .ok (.if_icmp .lt 23, 3) := by decide +kernel
theorem dX5_readPart_55 : decode cX5_readPart 55 = .ok (.goto 12, 3) := by decide +kernel
theorem dX5_readPart_58 : decode cX5_readPart 58 = .ok (.aload_n 1, 1) := by decide +kernel
theorem dX5_readPart_59 : decode cX5_readPart 59 = .ok (.getfield 60, 3) := by decide +kernel
theorem dX5_readPart_62 : decode cX5_readPart 62 = .ok (.bipush 8, 2) := by decide +kernel
theorem dX5_readPart_64 : decode cX5_readPart 64 = .ok (.if_icmp .lt 11, 3) := by decide +kernel
theorem dX5_readPart_67 : decode cX5_readPart 67 = .ok (.aload_n 0, 1) := by decide +kernel
theorem dX5_readPart_68 : decode cX5_readPart 68 = .ok (.iconst 3, 1) := by decide +kernel
theorem dX5_readPart_69 : decode cX5_readPart 69 = .ok (.invokevirtual 63, 3) := by decide +kernel
theorem dX5_readPart_72 : decode cX5_readPart 72 = .ok (.goto 22, 3) := by decide +kernel
theorem dX5_readPart_75 : decode cX5_readPart 75 = .ok (.iload 4, 2) := by decide +kernel
theorem dX5_readPart_77 : decode cX5_readPart 77 = .ok (.ifCond .eq 11, 3) := by decide +kernel
theorem dX5_readPart_80 : decode cX5_readPart 80 = .ok (.aload_n 0, 1) := by decide +kernel
theorem dX5_readPart_81 : decode cX5_readPart 81 = .ok (.aload_n 1, 1) := by decide +kernel
theorem dX5_readPart_82 : decode cX5_readPart 82 = .ok (.invokevirtual 69, 3) := by decide +kernel
theorem dX5_readPart_85 : decode cX5_readPart 85 = .ok (.goto 9, 3) := by decide +kernel
theorem dX5_readPart_88 : decode cX5_readPart 88 = .ok (.aload_n 0, 1) := by decide +kernel
theorem dX5_readPart_89 : decode cX5_readPart 89 = .ok (.aload_n 1, 1) := by decide +kernel
theorem dX5_readPart_90 : decode cX5_readPart 90 = .ok (.iload_n 3, 1) := by decide +kernel
theorem dX5_readPart_91 : decode cX5_readPart 91 = .ok (.invokevirtual 72, 3) := by decide +kernel
theorem dX5_readPart_94 : decode cX5_readPart 94 = .ok (.return_, 1) := by decide +kernel
set_option maxRecDepth 20000 in
theorem ggX5_readGiver_X5_takeNumber : GoodIn wsX5_readGiver wsX5_takeNumber := goodIn_r _ [8, 9, 1, 10, 11, 12, 13, 7, 14, 15, 16, 17, 18, 19, 24, 25, 26, 27] (by decide +kernel) (by decide +kernel)
set_option maxRecDepth 20000 in
theorem gX5_readGiver_X5_takeNumber : GoodIn wsX5_readGiver (wsV RX5 46 RX5 yX5_takeNumber wsX5_takeNumber) := goodIn_app (goodIn_of _ (by decide +kernel)) ggX5_readGiver_X5_takeNumber
set_option maxRecDepth 20000 in
theorem ggX5_readGiver_X5_takeSign : GoodIn wsX5_readGiver wsX5_takeSign := goodIn_r _ [23, 9, 1, 15, 10, 16, 17, 18, 7, 19, 24, 25, 26, 27] (by decide +kernel) (by decide +kernel)
set_option maxRecDepth 20000 in
theorem gX5_readGiver_X5_takeSign : GoodIn wsX5_readGiver (wsV RX5 42 RX5 yX5_takeSign wsX5_takeSign) := goodIn_app (goodIn_of _ (by decide +kernel)) ggX5_readGiver_X5_takeSign
theorem dX5_readGiver_0 : decode cX5_readGiver 0 = .ok (.aload_n 0, 1) := by decide +kernel
theorem dX5_readGiver_1 : decode cX5_readGiver 1 = .ok (.dup, 1) := by decide +kernel
theorem dX5_readGiver_2 : decode cX5_readGiver 2 = .ok (.getfield 23, 3) := by decide +kernel
theorem dX5_readGiver_5 : decode cX5_readGiver 5 = .ok (.iconst 1, 1) := by decide +kernel
theorem dX5_readGiver_6 : decode cX5_readGiver 6 = .ok (.iadd, 1) := by decide +kernel
theorem dX5_readGiver_7 : decode cX5_readGiver 7 = .ok (.putfield 23, 3) := by decide +kernel
theorem dX5_readGiver_10 : decode cX5_readGiver 10 = .ok (.aload_n 1, 1) := by decide +kernel
theorem dX5_readGiver_11 : decode cX5_readGiver 11 = .ok (.getfield 75, 3) := by decide +kernel
theorem dX5_readGiver_14 : decode cX5_readGiver 14 = .ok (.aload_n 1, 1) := by decide +kernel
theorem dX5_readGiver_15 : decode cX5_readGiver 15 = .ok (.getfield 66, 3) := by decide +kernel
theorem dX5_readGiver_18 : decode cX5_readGiver 18 = .ok (.aload_n 0, 1) := by decide +kernel
theorem dX5_readGiver_19 : decode cX5_readGiver 19 = .ok (.iconst 0, 1) := by decide +kernel
theorem dX5_readGiver_20 : decode cX5_readGiver 20 = .ok (.bipush 10, 2) := by decide +kernel
theorem dX5_readGiver_22 : decode cX5_readGiver 22 = .ok (.invokevirtual 46, 3) := by decide +kernel
theorem dX5_readGiver_25 : decode cX5_readGiver 25 = .ok (.iastore, 1) := by decide +kernel
theorem dX5_readGiver_26 : decode cX5_readGiver 26 = .ok (.aload_n 0, 1) := by decide +kernel
theorem dX5_readGiver_27 : decode cX5_readGiver 27 = .ok (.bipush 59, 2) := by decide +kernel
theorem dX5_readGiver_29 : decode cX5_readGiver 29 = .ok (.invokevirtual 42, 3) := by decide +kernel
theorem dX5_readGiver_32 : decode cX5_readGiver 32 = .ok (.aload_n 1, 1) := by decide +kernel
theorem dX5_readGiver_33 : decode cX5_readGiver 33 = .ok (.dup, 1) := by decide +kernel
theorem dX5_readGiver_34 : decode cX5_readGiver 34 = .ok (.getfield 66, 3) := by decide +kernel
theorem dX5_readGiver_37 : decode cX5_readGiver 37 = .ok (.iconst 1, 1) := by decide +kernel
theorem dX5_readGiver_38 : decode cX5_readGiver 38 = .ok (.iadd, 1) := by decide +kernel
theorem dX5_readGiver_39 : decode cX5_readGiver 39 = .ok (.putfield 66, 3) := by decide +kernel
theorem dX5_readGiver_42 : decode cX5_readGiver 42 = .ok (.return_, 1) := by decide +kernel
set_option maxRecDepth 20000 in
theorem ggX5_readPromise_X5_takeNumber : GoodIn wsX5_readPromise wsX5_takeNumber := goodIn_r _ [13, 14, 2, 15, 16, 17, 18, 12, 19, 20, 21, 22, 23, 24, 42, 43, 44, 45] (by decide +kernel) (by decide +kernel)
set_option maxRecDepth 20000 in
theorem gX5_readPromise_X5_takeNumber : GoodIn wsX5_readPromise (wsV RX5 46 RX5 yX5_takeNumber wsX5_takeNumber) := goodIn_app (goodIn_of _ (by decide +kernel)) ggX5_readPromise_X5_takeNumber
set_option maxRecDepth 20000 in
theorem ggX5_readPromise_X5_takeSign : GoodIn wsX5_readPromise wsX5_takeSign := goodIn_r _ [28, 14, 2, 20, 15, 21, 22, 23, 12, 24, 42, 43, 44, 45] (by decide +kernel) (by decide +kernel)
set_option maxRecDepth 20000 in
theorem gX5_readPromise_X5_takeSign : GoodIn wsX5_readPromise (wsV RX5 42 RX5 yX5_takeSign wsX5_takeSign) := goodIn_app (goodIn_of _ (by decide +kernel)) ggX5_readPromise_X5_takeSign
theorem dX5_readPromise_0 : decode cX5_readPromise 0 = .ok (.aload_n 1, 1) := by decide +kernel
theorem dX5_readPromise_1 : decode cX5_readPromise 1 = .ok (.getfield 60, 3) := by decide +kernel
theorem dX5_readPromise_4 : decode cX5_readPromise 4 = .ok (.istore_n 3, 1) := by decide +kernel
theorem dX5_readPromise_5 : decode cX5_readPromise 5 = .ok (.aload_n 0, 1) := by decide +kernel
theorem dX5_readPromise_6 : decode cX5_readPromise 6 = .ok (.dup, 1) := by decide +kernel
theorem dX5_readPromise_7 : decode cX5_readPromise 7 = .ok (.getfield 23, 3) := by decide +kernel
theorem dX5_readPromise_10 : decode cX5_readPromise 10 = .ok (.iconst 1, 1) := by decide +kernel
theorem dX5_readPromise_11 : decode cX5_readPromise 11 = .ok (.iadd, 1) := by decide +kernel
theorem dX5_readPromise_12 : decode cX5_readPromise 12 = .ok (.putfield 23, 3) := by decide +kernel
theorem dX5_readPromise_15 : decode cX5_readPromise 15 = .ok (.aload_n 1, 1) := by decide +kernel
theorem dX5_readPromise_16 : decode cX5_readPromise 16 = .ok (.getfield 78, 3) := by decide +kernel
theorem dX5_readPromise_19 : decode cX5_readPromise 19 = .ok (.iload_n 3, 1) := by decide +kernel
theorem dX5_readPromise_20 : decode cX5_readPromise 20 = .ok (.iload_n 2, 1) := by decide +kernel
theorem dX5_readPromise_21 : decode cX5_readPromise 21 = .ok (.iastore, 1) := by decide +kernel
theorem dX5_readPromise_22 : decode cX5_readPromise 22 = .ok (.aload_n 1, 1) := by decide +kernel
theorem dX5_readPromise_23 : decode cX5_readPromise 23 = .ok (.getfield 81, 3) := by decide +kernel
theorem dX5_readPromise_26 : decode cX5_readPromise 26 = .ok (.iload_n 3, 1) := by decide +kernel
theorem dX5_readPromise_27 : decode cX5_readPromise 27 = .ok (.aload_n 0, 1) := by decide +kernel
theorem dX5_readPromise_28 : decode cX5_readPromise 28 = .ok (.iconst 0, 1) := by decide +kernel
theorem dX5_readPromise_29 : decode cX5_readPromise 29 = .ok (.aload_n 1, 1) := by decide +kernel
theorem dX5_readPromise_30 : decode cX5_readPromise 30 = .ok (.getfield 66, 3) := by decide +kernel
theorem dX5_readPromise_33 : decode cX5_readPromise 33 = .ok (.iconst 1, 1) := by decide +kernel
theorem dX5_readPromise_34 : decode cX5_readPromise 34 = .ok (.isub, 1) := by decide +kernel
theorem dX5_readPromise_35 : decode cX5_readPromise 35 = .ok (.invokevirtual 46, 3) := by decide +kernel
theorem dX5_readPromise_38 : decode cX5_readPromise 38 = .ok (.iastore, 1) := by decide +kernel
theorem dX5_readPromise_39 : decode cX5_readPromise 39 = .ok (.aload_n 0, 1) := by decide +kernel
theorem dX5_readPromise_40 : decode cX5_readPromise 40 = .ok (.bipush 44, 2) := by decide +kernel
theorem dX5_readPromise_42 : decode cX5_readPromise 42 = .ok (.invokevirtual 42, 3) := by decide +kernel
theorem dX5_readPromise_45 : decode cX5_readPromise 45 = .ok (.aload_n 1, 1) := by decide +kernel
theorem dX5_readPromise_46 : decode cX5_readPromise 46 = .ok (.getfield 84, 3) := by decide +kernel
theorem dX5_readPromise_49 : decode cX5_readPromise 49 = .ok (.iload_n 3, 1) := by decide +kernel
theorem dX5_readPromise_50 : decode cX5_readPromise 50 = .ok (.aload_n 0, 1) := by decide +kernel
theorem dX5_readPromise_51 : decode cX5_readPromise 51 = .ok (.iconst 0, 1) := by decide +kernel
theorem dX5_readPromise_52 : decode cX5_readPromise 52 = .ok (.iconst 5, 1) := by decide +kernel
theorem dX5_readPromise_53 : decode cX5_readPromise 53 = .ok (.invokevirtual 46, 3) := by decide +kernel
theorem dX5_readPromise_56 : decode cX5_readPromise 56 = .ok (.iastore, 1) := by decide +kernel
theorem dX5_readPromise_57 : decode cX5_readPromise 57 = .ok (.aload_n 0, 1) := by decide +kernel
theorem dX5_readPromise_58 : decode cX5_readPromise 58 = .ok (.bipush 44, 2) := by decide +kernel
theorem dX5_readPromise_60 : decode cX5_readPromise 60 = .ok (.invokevirtual 42, 3) := by decide +kernel
theorem dX5_readPromise_63 : decode cX5_readPromise 63 = .ok (.aload_n 1, 1) := by decide +kernel
theorem dX5_readPromise_64 : decode cX5_readPromise 64 = .ok (.getfield 87, 3) := by decide +kernel
theorem dX5_readPromise_67 : decode cX5_readPromise 67 = .ok (.iload_n 3, 1) := by decide +kernel
theorem dX5_readPromise_68 : decode cX5_readPromise 68 = .ok (.aload_n 0, 1) := by decide +kernel
theorem dX5_readPromise_69 : decode cX5_readPromise 69 = .ok (.iconst 0, 1) := by decide +kernel
theorem dX5_readPromise_70 : decode cX5_readPromise 70 = .ok (.bipush 9, 2) := by decide +kernel
theorem dX5_readPromise_72 : decode cX5_readPromise 72 = .ok (.invokevirtual 46, 3) := by decide +kernel
theorem dX5_readPromise_75 : decode cX5_readPromise 75 = .ok (.iastore, 1) := by decide +kernel
theorem dX5_readPromise_76 : decode cX5_readPromise 76 = .ok (.aload_n 0, 1) := by decide +kernel
theorem dX5_readPromise_77 : decode cX5_readPromise 77 = .ok (.bipush 44, 2) := by decide +kernel
theorem dX5_readPromise_79 : decode cX5_readPromise 79 = .ok (.invokevirtual 42, 3) := by decide +kernel
theorem dX5_readPromise_82 : decode cX5_readPromise 82 = .ok (.aload_n 1, 1) := by decide +kernel
theorem dX5_readPromise_83 : decode cX5_readPromise 83 = .ok (.getfield 90, 3) := by decide +kernel
theorem dX5_readPromise_86 : decode cX5_readPromise 86 = .ok (.iload_n 3, 1) := by decide +kernel
theorem dX5_readPromise_87 : decode cX5_readPromise 87 = .ok (.aload_n 0, 1) := by decide +kernel
theorem dX5_readPromise_88 : decode cX5_readPromise 88 = .ok (.iconst 0, 1) := by decide +kernel
theorem dX5_readPromise_89 : decode cX5_readPromise 89 = .ok (.bipush 20, 2) := by decide +kernel
theorem dX5_readPromise_91 : decode cX5_readPromise 91 = .ok (.invokevirtual 46, 3) := by decide +kernel
theorem dX5_readPromise_94 : decode cX5_readPromise 94 = .ok (.iastore, 1) := by decide +kernel
theorem dX5_readPromise_95 : decode cX5_readPromise 95 = .ok (.aload_n 0, 1) := by decide +kernel
theorem dX5_readPromise_96 : decode cX5_readPromise 96 = .ok (.bipush 59, 2) := by decide +kernel
theorem dX5_readPromise_98 : decode cX5_readPromise 98 = .ok (.invokevirtual 42, 3) := by decide +kernel
theorem dX5_readPromise_101 : decode cX5_readPromise 101 = .ok (.aload_n 1, 1) := by decide +kernel
theorem dX5_readPromise_102 : decode cX5_readPromise 102 = .ok (.dup, 1) := by decide +kernel
theorem dX5_readPromise_103 : decode cX5_readPromise 103 = .ok (.getfield 60, 3) := by decide +kernel
theorem dX5_readPromise_106 : decode cX5_readPromise 106 = .ok (.iconst 1, 1) := by decide +kernel
theorem dX5_readPromise_107 : decode cX5_readPromise 107 = .ok (.iadd, 1) := by decide +kernel
theorem dX5_readPromise_108 : decode cX5_readPromise 108 = .ok (.putfield 60, 3) := by decide +kernel
theorem dX5_readPromise_111 : decode cX5_readPromise 111 = .ok (.return_, 1) := by decide +kernel
theorem dX5_kindOfSort_0 : decode cX5_kindOfSort 0 = .ok (.iload_n 0, 1) := by decide +kernel
theorem dX5_kindOfSort_1 : decode cX5_kindOfSort 1 = .ok (.tableswitch 73 105 116 #[65, 73, 73, 73, 71, 73, 69, 63, 73, 73, 73, 67], 63) := by decide +kernel
theorem dX5_kindOfSort_64 : decode cX5_kindOfSort 64 = .ok (.iconst 1, 1) := by decide +kernel
theorem dX5_kindOfSort_65 : decode cX5_kindOfSort 65 = .ok (.ireturn, 1) := by decide +kernel
theorem dX5_kindOfSort_66 : decode cX5_kindOfSort 66 = .ok (.iconst 2, 1) := by decide +kernel
theorem dX5_kindOfSort_67 : decode cX5_kindOfSort 67 = .ok (.ireturn, 1) := by decide +kernel
theorem dX5_kindOfSort_68 : decode cX5_kindOfSort 68 = .ok (.iconst 3, 1) := by decide +kernel
theorem dX5_kindOfSort_69 : decode cX5_kindOfSort 69 = .ok (.ireturn, 1) := by decide +kernel
theorem dX5_kindOfSort_70 : decode cX5_kindOfSort 70 = .ok (.iconst 4, 1) := by decide +kernel
theorem dX5_kindOfSort_71 : decode cX5_kindOfSort 71 = .ok (.ireturn, 1) := by decide +kernel
theorem dX5_kindOfSort_72 : decode cX5_kindOfSort 72 = .ok (.iconst 5, 1) := by decide +kernel
theorem dX5_kindOfSort_73 : decode cX5_kindOfSort 73 = .ok (.ireturn, 1) := by decide +kernel
theorem dX5_kindOfSort_74 : decode cX5_kindOfSort 74 = .ok (.iconst 0, 1) := by decide +kernel
theorem dX5_kindOfSort_75 : decode cX5_kindOfSort 75 = .ok (.ireturn, 1) := by decide +kernel
set_option maxRecDepth 20000 in
theorem ggX5_takeSign_X5_meet : GoodIn wsX5_takeSign wsX5_meet := goodIn_r _ [9, 1, 10, 11, 12, 13] (by decide +kernel) (by decide +kernel)
set_option maxRecDepth 20000 in
theorem gX5_takeSign_X5_meet : GoodIn wsX5_takeSign (wsV RX5 63 RX5 yX5_meet wsX5_meet) := goodIn_app (goodIn_of _ (by decide +kernel)) ggX5_takeSign_X5_meet
theorem dX5_takeSign_0 : decode cX5_takeSign 0 = .ok (.aload_n 0, 1) := by decide +kernel
theorem dX5_takeSign_1 : decode cX5_takeSign 1 = .ok (.getfield 26, 3) := by decide +kernel
theorem dX5_takeSign_4 : decode cX5_takeSign 4 = .ok (.ifCond .eq 4, 3) := by decide +kernel
theorem dX5_takeSign_7 : decode cX5_takeSign 7 = .ok (.return_, 1) := by decide +kernel
theorem dX5_takeSign_8 : decode cX5_takeSign 8 = .ok (.aload_n 0, 1) := by decide +kernel
theorem dX5_takeSign_9 : decode cX5_takeSign 9 = .ok (.getfield 23, 3) := by decide +kernel
theorem dX5_takeSign_12 : decode cX5_takeSign 12 = .ok (.aload_n 0, 1) := by decide +kernel
theorem dX5_takeSign_13 : decode cX5_takeSign 13 = .ok (.getfield 15, 3) := by decide +kernel
theorem dX5_takeSign_16 : decode cX5_takeSign 16 = .ok (.if_icmp .ge 29, 3) := by decide +kernel
theorem dX5_takeSign_19 : decode cX5_takeSign 19 = .ok (.aload_n 0, 1) := by decide +kernel
theorem dX5_takeSign_20 : decode cX5_takeSign 20 = .ok (.getfield 11, 3) := by decide +kernel
theorem dX5_takeSign_23 : decode cX5_takeSign 23 = .ok (.aload_n 0, 1) := by decide +kernel
theorem dX5_takeSign_24 : decode cX5_takeSign 24 = .ok (.getfield 23, 3) := by decide +kernel
theorem dX5_takeSign_27 : decode cX5_takeSign 27 = .ok (.iaload, 1) := by decide +kernel
theorem dX5_takeSign_28 : decode cX5_takeSign 28 = .ok (.iload_n 1, 1) := by decide +kernel
theorem dX5_takeSign_29 : decode cX5_takeSign 29 = .ok (.if_icmp .ne 16, 3) := by decide +kernel
theorem dX5_takeSign_32 : decode cX5_takeSign 32 = .ok (.aload_n 0, 1) := by decide +kernel
theorem dX5_takeSign_33 : decode cX5_takeSign 33 = .ok (.dup, 1) := by decide +kernel
theorem dX5_takeSign_34 : decode cX5_takeSign 34 = .ok (.getfield 23, 3) := by decide +kernel
theorem dX5_takeSign_37 : decode cX5_takeSign 37 = .ok (.iconst 1, 1) := by decide +kernel
theorem dX5_takeSign_38 : decode cX5_takeSign 38 = .ok (.iadd, 1) := by decide +kernel
theorem dX5_takeSign_39 : decode cX5_takeSign 39 = .ok (.putfield 23, 3) := by decide +kernel
theorem dX5_takeSign_42 : decode cX5_takeSign 42 = .ok (.goto 8, 3) := by decide +kernel
theorem dX5_takeSign_45 : decode cX5_takeSign 45 = .ok (.aload_n 0, 1) := by decide +kernel
theorem dX5_takeSign_46 : decode cX5_takeSign 46 = .ok (.iconst 1, 1) := by decide +kernel
theorem dX5_takeSign_47 : decode cX5_takeSign 47 = .ok (.invokevirtual 63, 3) := by decide +kernel
theorem dX5_takeSign_50 : decode cX5_takeSign 50 = .ok (.return_, 1) := by decide +kernel
set_option maxRecDepth 20000 in
theorem ggX5_takeNumber_X5_figuresFrom : GoodIn wsX5_takeNumber wsX5_figuresFrom := goodIn_r _ [8, 9, 3, 14, 15, 16, 17] (by decide +kernel) (by decide +kernel)
set_option maxRecDepth 20000 in
theorem gX5_takeNumber_X5_figuresFrom : GoodIn wsX5_takeNumber (wsV RX5 93 RX5 yX5_figuresFrom wsX5_figuresFrom) := goodIn_app (goodIn_of _ (by decide +kernel)) ggX5_takeNumber_X5_figuresFrom
set_option maxRecDepth 20000 in
theorem ggX5_takeNumber_X5_meet : GoodIn wsX5_takeNumber wsX5_meet := goodIn_r _ [13, 1, 14, 15, 16, 17] (by decide +kernel) (by decide +kernel)
set_option maxRecDepth 20000 in
theorem gX5_takeNumber_X5_meet : GoodIn wsX5_takeNumber (wsV RX5 63 RX5 yX5_meet wsX5_meet) := goodIn_app (goodIn_of _ (by decide +kernel)) ggX5_takeNumber_X5_meet
theorem dX5_takeNumber_0 : decode cX5_takeNumber 0 = .ok (.aload_n 0, 1) := by decide +kernel
theorem dX5_takeNumber_1 : decode cX5_takeNumber 1 = .ok (.getfield 26, 3) := by decide +kernel
theorem dX5_takeNumber_4 : decode cX5_takeNumber 4 = .ok (.ifCond .eq 5, 3) := by decide +kernel
theorem dX5_takeNumber_7 : decode cX5_takeNumber 7 = .ok (.iconst 0, 1) := by decide +kernel
theorem dX5_takeNumber_8 : decode cX5_takeNumber 8 = .ok (.ireturn, 1) := by decide +kernel
theorem dX5_takeNumber_9 : decode cX5_takeNumber 9 = .ok (.aload_n 0, 1) := by decide +kernel
theorem dX5_takeNumber_10 : decode cX5_takeNumber 10 = .ok (.aload_n 0, 1) := by decide +kernel
theorem dX5_takeNumber_11 : decode cX5_takeNumber 11 = .ok (.getfield 23, 3) := by decide +kernel
theorem dX5_takeNumber_14 : decode cX5_takeNumber 14 = .ok (.invokevirtual 93, 3) := by decide +kernel
theorem dX5_takeNumber_17 : decode cX5_takeNumber 17 = .ok (.istore_n 3, 1) := by decide +kernel
theorem dX5_takeNumber_18 : decode cX5_takeNumber 18 = .ok (.iload_n 3, 1) := by decide +kernel
theorem dX5_takeNumber_19 : decode cX5_takeNumber 19 = .ok (.iconst 1, 1) := by decide +kernel
theorem dX5_takeNumber_20 : decode cX5_takeNumber 20 = .ok (.if_icmp .lt 8, 3) := by decide +kernel
theorem dX5_takeNumber_23 : decode cX5_takeNumber 23 = .ok (.iload_n 3, 1) := by decide +kernel
theorem dX5_takeNumber_24 : decode cX5_takeNumber 24 = .ok (.iconst 2, 1) := by decide +kernel
theorem dX5_takeNumber_25 : decode cX5_takeNumber 25 = .ok (.if_icmp .le 10, 3) := by decide +kernel
theorem dX5_takeNumber_28 : decode cX5_takeNumber 28 = .ok (.aload_n 0, 1) := by decide +kernel
theorem dX5_takeNumber_29 : decode cX5_takeNumber 29 = .ok (.iconst 1, 1) := by decide +kernel
theorem dX5_takeNumber_30 : decode cX5_takeNumber 30 = .ok (.invokevirtual 63, 3) := by decide +kernel
theorem dX5_takeNumber_33 : decode cX5_takeNumber 33 = .ok (.iconst 0, 1) := by decide +kernel
theorem dX5_takeNumber_34 : decode cX5_takeNumber 34 = .ok (.ireturn, 1) := by decide +kernel
theorem dX5_takeNumber_35 : decode cX5_takeNumber 35 = .ok (.iconst 0, 1) := by decide +kernel
theorem dX5_takeNumber_36 : decode cX5_takeNumber 36 = .ok (.istore 4, 2) := by decide +kernel
theorem dX5_takeNumber_38 : decode cX5_takeNumber 38 = .ok (.aload_n 0, 1) := by decide +kernel
theorem dX5_takeNumber_39 : decode cX5_takeNumber 39 = .ok (.getfield 23, 3) := by decide +kernel
theorem dX5_takeNumber_42 : decode cX5_takeNumber 42 = .ok (.istore 5, 2) := by decide +kernel
theorem dX5_takeNumber_44 : decode cX5_takeNumber 44 = .ok (.iload 5, 2) := by decide +kernel
theorem dX5_takeNumber_46 : decode cX5_takeNumber 46 = .ok (.aload_n 0, 1) := by decide +kernel
theorem dX5_takeNumber_47 : decode cX5_takeNumber 47 = .ok (.getfield 23, 3) := by decide +kernel
theorem dX5_takeNumber_50 : decode cX5_takeNumber 50 = .ok (.iload_n 3, 1) := by decide +kernel
theorem dX5_takeNumber_51 : decode cX5_takeNumber 51 = .ok (.iadd, 1) := by decide +kernel
theorem dX5_takeNumber_52 : decode cX5_takeNumber 52 = .ok (.if_icmp .ge 27, 3) := by decide +kernel
theorem dX5_takeNumber_55 : decode cX5_takeNumber 55 = .ok (.bipush 10, 2) := by decide +kernel
theorem dX5_takeNumber_57 : decode cX5_takeNumber 57 = .ok (.iload 4, 2) := by decide +kernel
theorem dX5_takeNumber_59 : decode cX5_takeNumber 59 = .ok (.imul, 1) := by decide +kernel
theorem dX5_takeNumber_60 : decode cX5_takeNumber 60 = .ok (.aload_n 0, 1) := by decide +kernel
theorem dX5_takeNumber_61 : decode cX5_takeNumber 61 = .ok (.getfield 11, 3) := by decide +kernel
theorem dX5_takeNumber_64 : decode cX5_takeNumber 64 = .ok (.iload 5, 2) := by decide +kernel
theorem dX5_takeNumber_66 : decode cX5_takeNumber 66 = .ok (.iaload, 1) := by decide +kernel
theorem dX5_takeNumber_67 : decode cX5_takeNumber 67 = .ok (.iadd, 1) := by decide +kernel
theorem dX5_takeNumber_68 : decode cX5_takeNumber 68 = .ok (.bipush 48, 2) := by decide +kernel
theorem dX5_takeNumber_70 : decode cX5_takeNumber 70 = .ok (.isub, 1) := by decide +kernel
theorem dX5_takeNumber_71 : decode cX5_takeNumber 71 = .ok (.istore 4, 2) := by decide +kernel
theorem dX5_takeNumber_73 : decode cX5_takeNumber 73 = .ok (.iinc 5 1, 3) := by decide +kernel
theorem dX5_takeNumber_76 : decode cX5_takeNumber 76 = .ok (.goto (-32), 3) := by decide +kernel
theorem dX5_takeNumber_79 : decode cX5_takeNumber 79 = .ok (.iload 4, 2) := by decide +kernel
theorem dX5_takeNumber_81 : decode cX5_takeNumber 81 = .ok (.iload_n 1, 1) := by decide +kernel
theorem dX5_takeNumber_82 : decode cX5_takeNumber 82 = .ok (.if_icmp .lt 9, 3) := by decide +kernel
theorem dX5_takeNumber_85 : decode cX5_takeNumber 85 = .ok (.iload 4, 2) := by decide +kernel
theorem dX5_takeNumber_87 : decode cX5_takeNumber 87 = .ok (.iload_n 2, 1) := by decide +kernel
theorem dX5_takeNumber_88 : decode cX5_takeNumber 88 = .ok (.if_icmp .le 10, 3) := by decide +kernel
theorem dX5_takeNumber_91 : decode cX5_takeNumber 91 = .ok (.aload_n 0, 1) := by decide +kernel
theorem dX5_takeNumber_92 : decode cX5_takeNumber 92 = .ok (.iconst 2, 1) := by decide +kernel
theorem dX5_takeNumber_93 : decode cX5_takeNumber 93 = .ok (.invokevirtual 63, 3) := by decide +kernel
theorem dX5_takeNumber_96 : decode cX5_takeNumber 96 = .ok (.iconst 0, 1) := by decide +kernel
theorem dX5_takeNumber_97 : decode cX5_takeNumber 97 = .ok (.ireturn, 1) := by decide +kernel
theorem dX5_takeNumber_98 : decode cX5_takeNumber 98 = .ok (.aload_n 0, 1) := by decide +kernel
theorem dX5_takeNumber_99 : decode cX5_takeNumber 99 = .ok (.dup, 1) := by decide +kernel
theorem dX5_takeNumber_100 : decode cX5_takeNumber 100 = .ok (.getfield 23, 3) := by decide +kernel
theorem dX5_takeNumber_103 : decode cX5_takeNumber 103 = .ok (.iload_n 3, 1) := by decide +kernel
theorem dX5_takeNumber_104 : decode cX5_takeNumber 104 = .ok (.iadd, 1) := by decide +kernel
theorem dX5_takeNumber_105 : decode cX5_takeNumber 105 = .ok (.putfield 23, 3) := by decide +kernel
theorem dX5_takeNumber_108 : decode cX5_takeNumber 108 = .ok (.iload 4, 2) := by decide +kernel
theorem dX5_takeNumber_110 : decode cX5_takeNumber 110 = .ok (.ireturn, 1) := by decide +kernel
theorem dX5_figuresFrom_0 : decode cX5_figuresFrom 0 = .ok (.iload_n 1, 1) := by decide +kernel
theorem dX5_figuresFrom_1 : decode cX5_figuresFrom 1 = .ok (.istore_n 2, 1) := by decide +kernel
theorem dX5_figuresFrom_2 : decode cX5_figuresFrom 2 = .ok (.iload_n 2, 1) := by decide +kernel
theorem dX5_figuresFrom_3 : decode cX5_figuresFrom 3 = .ok (.aload_n 0, 1) := by decide +kernel
theorem dX5_figuresFrom_4 : decode cX5_figuresFrom 4 = .ok (.getfield 15, 3) := by decide +kernel
theorem dX5_figuresFrom_7 : decode cX5_figuresFrom 7 = .ok (.if_icmp .ge 31, 3) := by decide +kernel
theorem dX5_figuresFrom_10 : decode cX5_figuresFrom 10 = .ok (.aload_n 0, 1) := by decide +kernel
theorem dX5_figuresFrom_11 : decode cX5_figuresFrom 11 = .ok (.getfield 11, 3) := by decide +kernel
theorem dX5_figuresFrom_14 : decode cX5_figuresFrom 14 = .ok (.iload_n 2, 1) := by decide +kernel
theorem dX5_figuresFrom_15 : decode cX5_figuresFrom 15 = .ok (.iaload, 1) := by decide +kernel
theorem dX5_figuresFrom_16 : decode cX5_figuresFrom 16 = .ok (.bipush 48, 2) := by decide +kernel
theorem dX5_figuresFrom_18 : decode cX5_figuresFrom 18 = .ok (.if_icmp .lt 20, 3) := by decide +kernel
theorem dX5_figuresFrom_21 : decode cX5_figuresFrom 21 = .ok (.aload_n 0, 1) := by decide +kernel
theorem dX5_figuresFrom_22 : decode cX5_figuresFrom 22 = .ok (.getfield 11, 3) := by decide +kernel
theorem dX5_figuresFrom_25 : decode cX5_figuresFrom 25 = .ok (.iload_n 2, 1) := by decide +kernel
theorem dX5_figuresFrom_26 : decode cX5_figuresFrom 26 = .ok (.iaload, 1) := by decide +kernel
theorem dX5_figuresFrom_27 : decode cX5_figuresFrom 27 = .ok (.bipush 57, 2) := by decide +kernel
theorem dX5_figuresFrom_29 : decode cX5_figuresFrom 29 = .ok (.if_icmp .gt 9, 3) := by decide +kernel
theorem dX5_figuresFrom_32 : decode cX5_figuresFrom 32 = .ok (.iinc 2 1, 3) := by decide +kernel
theorem dX5_figuresFrom_35 : decode cX5_figuresFrom 35 = .ok (.goto (-33), 3) := by decide +kernel
theorem dX5_figuresFrom_38 : decode cX5_figuresFrom 38 = .ok (.iload_n 2, 1) := by decide +kernel
theorem dX5_figuresFrom_39 : decode cX5_figuresFrom 39 = .ok (.iload_n 1, 1) := by decide +kernel
theorem dX5_figuresFrom_40 : decode cX5_figuresFrom 40 = .ok (.isub, 1) := by decide +kernel
theorem dX5_figuresFrom_41 : decode cX5_figuresFrom 41 = .ok (.ireturn, 1) := by decide +kernel
theorem dX5_meet_0 : decode cX5_meet 0 = .ok (.aload_n 0, 1) := by decide +kernel
theorem dX5_meet_1 : decode cX5_meet 1 = .ok (.iload_n 1, 1) := by decide +kernel
theorem dX5_meet_2 : decode cX5_meet 2 = .ok (.putfield 26, 3) := by decide +kernel
theorem dX5_meet_5 : decode cX5_meet 5 = .ok (.return_, 1) := by decide +kernel
set_option maxRecDepth 20000 in
theorem ggX6_init_X3_init : GoodIn wsX6_init wsX3_init := goodIn_r _ [33, 34, 2, 3, 35, 36, 37, 38, 39, 70, 71, 72] (by decide +kernel) (by decide +kernel)
set_option maxRecDepth 20000 in
theorem gX6_init_X3_init : GoodIn wsX6_init (wsX3_init) := ggX6_init_X3_init
set_option maxRecDepth 20000 in
theorem ggX6_init_X5_init : GoodIn wsX6_init wsX5_init := goodIn_r _ [41, 42, 2, 3, 36, 43, 84, 85, 86, 87] (by decide +kernel) (by decide +kernel)
set_option maxRecDepth 20000 in
theorem gX6_init_X5_init_n18 : GoodIn wsX6_init (wsX5_init) := ggX6_init_X5_init
set_option maxRecDepth 20000 in
theorem ggX6_init_X4_init : GoodIn wsX6_init wsX4_init := goodIn_r _ [45, 46, 2, 3, 36, 47, 48, 49, 50, 51, 52, 53, 88, 89, 90, 91, 92, 93, 94, 95, 96, 97, 98, 99, 100] (by decide +kernel) (by decide +kernel)
set_option maxRecDepth 20000 in
theorem gX6_init_X4_init_n25 : GoodIn wsX6_init (wsX4_init) := ggX6_init_X4_init
set_option maxRecDepth 20000 in
theorem ggX6_init_X0_init : GoodIn wsX6_init wsX0_init := goodIn_r _ [55, 56, 2, 3, 36, 57, 58, 59, 60, 101, 102, 103, 104, 105, 106] (by decide +kernel) (by decide +kernel)
set_option maxRecDepth 20000 in
theorem gX6_init_X0_init_n42 : GoodIn wsX6_init (wsX0_init) := ggX6_init_X0_init
set_option maxRecDepth 20000 in
theorem ggX6_init_X2_init : GoodIn wsX6_init wsX2_init := goodIn_r _ [62, 63, 2, 3, 36, 64, 65, 107, 108, 109, 110, 111, 112, 113] (by decide +kernel) (by decide +kernel)
set_option maxRecDepth 20000 in
theorem gX6_init_X2_init_n49 : GoodIn wsX6_init (wsX2_init) := ggX6_init_X2_init
set_option maxRecDepth 20000 in
theorem ggX6_init_X1_init : GoodIn wsX6_init wsX1_init := goodIn_r _ [67, 68, 2, 3, 36, 69, 114, 115, 116, 117, 118, 119] (by decide +kernel) (by decide +kernel)
set_option maxRecDepth 20000 in
theorem gX6_init_X1_init_n56 : GoodIn wsX6_init (wsX1_init) := ggX6_init_X1_init
theorem dX6_init_0 : decode cX6_init 0 = .ok (.aload_n 0, 1) := by decide +kernel
theorem dX6_init_1 : decode cX6_init 1 = .ok (.invokespecial 1, 3) := by decide +kernel
theorem dX6_init_4 : decode cX6_init 4 = .ok (.aload_n 0, 1) := by decide +kernel
theorem dX6_init_5 : decode cX6_init 5 = .ok (.new 7, 3) := by decide +kernel
theorem dX6_init_8 : decode cX6_init 8 = .ok (.dup, 1) := by decide +kernel
theorem dX6_init_9 : decode cX6_init 9 = .ok (.invokespecial 9, 3) := by decide +kernel
theorem dX6_init_12 : decode cX6_init 12 = .ok (.putfield 10, 3) := by decide +kernel
theorem dX6_init_15 : decode cX6_init 15 = .ok (.aload_n 0, 1) := by decide +kernel
theorem dX6_init_16 : decode cX6_init 16 = .ok (.new 16, 3) := by decide +kernel
theorem dX6_init_19 : decode cX6_init 19 = .ok (.dup, 1) := by decide +kernel
theorem dX6_init_20 : decode cX6_init 20 = .ok (.invokespecial 18, 3) := by decide +kernel
theorem dX6_init_23 : decode cX6_init 23 = .ok (.putfield 19, 3) := by decide +kernel
theorem dX6_init_26 : decode cX6_init 26 = .ok (.aload_n 0, 1) := by decide +kernel
theorem dX6_init_27 : decode cX6_init 27 = .ok (.new 23, 3) := by decide +kernel
theorem dX6_init_30 : decode cX6_init 30 = .ok (.dup, 1) := by decide +kernel
theorem dX6_init_31 : decode cX6_init 31 = .ok (.invokespecial 25, 3) := by decide +kernel
theorem dX6_init_34 : decode cX6_init 34 = .ok (.putfield 26, 3) := by decide +kernel
theorem dX6_init_37 : decode cX6_init 37 = .ok (.aload_n 0, 1) := by decide +kernel
theorem dX6_init_38 : decode cX6_init 38 = .ok (.new 23, 3) := by decide +kernel
theorem dX6_init_41 : decode cX6_init 41 = .ok (.dup, 1) := by decide +kernel
theorem dX6_init_42 : decode cX6_init 42 = .ok (.invokespecial 25, 3) := by decide +kernel
theorem dX6_init_45 : decode cX6_init 45 = .ok (.putfield 30, 3) := by decide +kernel
theorem dX6_init_48 : decode cX6_init 48 = .ok (.aload_n 0, 1) := by decide +kernel
theorem dX6_init_49 : decode cX6_init 49 = .ok (.new 23, 3) := by decide +kernel
theorem dX6_init_52 : decode cX6_init 52 = .ok (.dup, 1) := by decide +kernel
theorem dX6_init_53 : decode cX6_init 53 = .ok (.invokespecial 25, 3) := by decide +kernel
theorem dX6_init_56 : decode cX6_init 56 = .ok (.putfield 33, 3) := by decide +kernel
theorem dX6_init_59 : decode cX6_init 59 = .ok (.aload_n 0, 1) := by decide +kernel
theorem dX6_init_60 : decode cX6_init 60 = .ok (.iconst 2, 1) := by decide +kernel
theorem dX6_init_61 : decode cX6_init 61 = .ok (.anewarray 23, 3) := by decide +kernel
theorem dX6_init_64 : decode cX6_init 64 = .ok (.putfield 36, 3) := by decide +kernel
theorem dX6_init_67 : decode cX6_init 67 = .ok (.iconst 0, 1) := by decide +kernel
theorem dX6_init_68 : decode cX6_init 68 = .ok (.istore_n 1, 1) := by decide +kernel
theorem dX6_init_69 : decode cX6_init 69 = .ok (.iload_n 1, 1) := by decide +kernel
theorem dX6_init_70 : decode cX6_init 70 = .ok (.iconst 2, 1) := by decide +kernel
theorem dX6_init_71 : decode cX6_init 71 = .ok (.if_icmp .ge 22, 3) := by decide +kernel
theorem dX6_init_74 : decode cX6_init 74 = .ok (.aload_n 0, 1) := by decide +kernel
theorem dX6_init_75 : decode cX6_init 75 = .ok (.getfield 36, 3) := by decide +kernel
theorem dX6_init_78 : decode cX6_init 78 = .ok (.iload_n 1, 1) := by decide +kernel
theorem dX6_init_79 : decode cX6_init 79 = .ok (.new 23, 3) := by decide +kernel
theorem dX6_init_82 : decode cX6_init 82 = .ok (.dup, 1) := by decide +kernel
theorem dX6_init_83 : decode cX6_init 83 = .ok (.invokespecial 25, 3) := by decide +kernel
theorem dX6_init_86 : decode cX6_init 86 = .ok (.aastore, 1) := by decide +kernel
theorem dX6_init_87 : decode cX6_init 87 = .ok (.iinc 1 1, 3) := by decide +kernel
theorem dX6_init_90 : decode cX6_init 90 = .ok (.goto (-21), 3) := by decide +kernel
theorem dX6_init_93 : decode cX6_init 93 = .ok (.aload_n 0, 1) := by decide +kernel
theorem dX6_init_94 : decode cX6_init 94 = .ok (.new 40, 3) := by decide +kernel
theorem dX6_init_97 : decode cX6_init 97 = .ok (.dup, 1) := by decide +kernel
theorem dX6_init_98 : decode cX6_init 98 = .ok (.invokespecial 42, 3) := by decide +kernel
theorem dX6_init_101 : decode cX6_init 101 = .ok (.putfield 43, 3) := by decide +kernel
theorem dX6_init_104 : decode cX6_init 104 = .ok (.aload_n 0, 1) := by decide +kernel
theorem dX6_init_105 : decode cX6_init 105 = .ok (.new 47, 3) := by decide +kernel
theorem dX6_init_108 : decode cX6_init 108 = .ok (.dup, 1) := by decide +kernel
theorem dX6_init_109 : decode cX6_init 109 = .ok (.invokespecial 49, 3) := by decide +kernel
theorem dX6_init_112 : decode cX6_init 112 = .ok (.putfield 50, 3) := by decide +kernel
theorem dX6_init_115 : decode cX6_init 115 = .ok (.aload_n 0, 1) := by decide +kernel
theorem dX6_init_116 : decode cX6_init 116 = .ok (.new 54, 3) := by decide +kernel
theorem dX6_init_119 : decode cX6_init 119 = .ok (.dup, 1) := by decide +kernel
theorem dX6_init_120 : decode cX6_init 120 = .ok (.invokespecial 56, 3) := by decide +kernel
theorem dX6_init_123 : decode cX6_init 123 = .ok (.putfield 57, 3) := by decide +kernel
theorem dX6_init_126 : decode cX6_init 126 = .ok (.return_, 1) := by decide +kernel
set_option maxRecDepth 20000 in
theorem ggX6_row_X6_isRow : GoodIn wsX6_row wsX6_isRow := goodIn_r _ [6, 7, 8, 5, 9] (by decide +kernel) (by decide +kernel)
set_option maxRecDepth 20000 in
theorem gX6_row_X6_isRow : GoodIn wsX6_row (va_wsS RX6 61 yX6_isRow wsX6_isRow) := goodIn_app (goodIn_of _ (by decide +kernel)) ggX6_row_X6_isRow
set_option maxRecDepth 20000 in
theorem ggX6_row_X6_isWithin : GoodIn wsX6_row wsX6_isWithin := goodIn_r _ [9] (by decide +kernel) (by decide +kernel)
set_option maxRecDepth 20000 in
theorem gX6_row_X6_isWithin : GoodIn wsX6_row (va_wsS RX6 65 yX6_isWithin wsX6_isWithin) := goodIn_app (goodIn_of _ (by decide +kernel)) ggX6_row_X6_isWithin
set_option maxRecDepth 20000 in
theorem ggX6_row_X6_finding : GoodIn wsX6_row wsX6_finding := goodIn_r _ [13, 14, 15, 28, 29, 30, 31, 32, 33, 34, 35, 36, 37, 38] (by decide +kernel) (by decide +kernel)
set_option maxRecDepth 20000 in
theorem gX6_row_X6_finding : GoodIn wsX6_row (wsV RX6 70 RX6 yX6_finding wsX6_finding) := goodIn_app (goodIn_of _ (by decide +kernel)) ggX6_row_X6_finding
set_option maxRecDepth 20000 in
theorem ggX6_row_X3_make : GoodIn wsX6_row wsX3_make := goodIn_r _ [20, 21, 22, 23, 39, 40, 41] (by decide +kernel) (by decide +kernel)
set_option maxRecDepth 20000 in
theorem gX6_row_X3_make : GoodIn wsX6_row (wsV RX6 74 RX3 yX3_make wsX3_make) := goodIn_app (goodIn_of _ (by decide +kernel)) ggX6_row_X3_make
set_option maxRecDepth 20000 in
theorem ggX6_row_X6_answered : GoodIn wsX6_row wsX6_answered := goodIn_r _ [27, 14, 28, 29, 30, 31, 32, 33, 34, 35, 36, 37, 38] (by decide +kernel) (by decide +kernel)
set_option maxRecDepth 20000 in
theorem gX6_row_X6_answered : GoodIn wsX6_row (wsV RX6 78 RX6 yX6_answered wsX6_answered) := goodIn_app (goodIn_of _ (by decide +kernel)) ggX6_row_X6_answered
theorem dX6_row_0 : decode cX6_row 0 = .ok (.iload_n 1, 1) := by decide +kernel
theorem dX6_row_1 : decode cX6_row 1 = .ok (.invokestatic 61, 3) := by decide +kernel
theorem dX6_row_4 : decode cX6_row 4 = .ok (.ifCond .eq 18, 3) := by decide +kernel
theorem dX6_row_7 : decode cX6_row 7 = .ok (.iload_n 2, 1) := by decide +kernel
theorem dX6_row_8 : decode cX6_row 8 = .ok (.iconst 0, 1) := by decide +kernel
theorem dX6_row_9 : decode cX6_row 9 = .ok (.iconst 2, 1) := by decide +kernel
theorem dX6_row_10 : decode cX6_row 10 = .ok (.invokestatic 65, 3) := by decide +kernel
theorem dX6_row_13 : decode cX6_row 13 = .ok (.ifCond .eq 9, 3) := by decide +kernel
theorem dX6_row_16 : decode cX6_row 16 = .ok (.iload_n 3, 1) := by decide +kernel
theorem dX6_row_17 : decode cX6_row 17 = .ok (.bipush 40, 2) := by decide +kernel
theorem dX6_row_19 : decode cX6_row 19 = .ok (.if_icmp .le 6, 3) := by decide +kernel
theorem dX6_row_22 : decode cX6_row 22 = .ok (.ldc 69, 2) := by decide +kernel
theorem dX6_row_24 : decode cX6_row 24 = .ok (.ireturn, 1) := by decide +kernel
theorem dX6_row_25 : decode cX6_row 25 = .ok (.iload_n 3, 1) := by decide +kernel
theorem dX6_row_26 : decode cX6_row 26 = .ok (.ifCond .ge 9, 3) := by decide +kernel
theorem dX6_row_29 : decode cX6_row 29 = .ok (.aload_n 0, 1) := by decide +kernel
theorem dX6_row_30 : decode cX6_row 30 = .ok (.iconst 4, 1) := by decide +kernel
theorem dX6_row_31 : decode cX6_row 31 = .ok (.invokevirtual 70, 3) := by decide +kernel
theorem dX6_row_34 : decode cX6_row 34 = .ok (.ireturn, 1) := by decide +kernel
theorem dX6_row_35 : decode cX6_row 35 = .ok (.aload_n 0, 1) := by decide +kernel
theorem dX6_row_36 : decode cX6_row 36 = .ok (.getfield 10, 3) := by decide +kernel
theorem dX6_row_39 : decode cX6_row 39 = .ok (.iload_n 1, 1) := by decide +kernel
theorem dX6_row_40 : decode cX6_row 40 = .ok (.iload_n 2, 1) := by decide +kernel
theorem dX6_row_41 : decode cX6_row 41 = .ok (.iload_n 3, 1) := by decide +kernel
theorem dX6_row_42 : decode cX6_row 42 = .ok (.invokevirtual 74, 3) := by decide +kernel
theorem dX6_row_45 : decode cX6_row 45 = .ok (.aload_n 0, 1) := by decide +kernel
theorem dX6_row_46 : decode cX6_row 46 = .ok (.iload_n 3, 1) := by decide +kernel
theorem dX6_row_47 : decode cX6_row 47 = .ok (.invokevirtual 78, 3) := by decide +kernel
theorem dX6_row_50 : decode cX6_row 50 = .ok (.ireturn, 1) := by decide +kernel
set_option maxRecDepth 20000 in
theorem ggX6_set_X6_isRow : GoodIn wsX6_set wsX6_isRow := goodIn_r _ [6, 7, 8, 5, 9] (by decide +kernel) (by decide +kernel)
set_option maxRecDepth 20000 in
theorem gX6_set_X6_isRow : GoodIn wsX6_set (va_wsS RX6 61 yX6_isRow wsX6_isRow) := goodIn_app (goodIn_of _ (by decide +kernel)) ggX6_set_X6_isRow
set_option maxRecDepth 20000 in
theorem ggX6_set_X3_findingOfRun : GoodIn wsX6_set wsX3_findingOfRun := goodIn_r _ [14, 15, 16, 17, 18, 13, 19, 47, 48, 49] (by decide +kernel) (by decide +kernel)
set_option maxRecDepth 20000 in
theorem gX6_set_X3_findingOfRun : GoodIn wsX6_set (wsV RX6 81 RX3 yX3_findingOfRun wsX3_findingOfRun) := goodIn_app (goodIn_of _ (by decide +kernel)) ggX6_set_X3_findingOfRun
set_option maxRecDepth 20000 in
theorem ggX6_set_X6_finding : GoodIn wsX6_set wsX6_finding := goodIn_r _ [23, 24, 25, 36, 37, 38, 39, 40, 41, 42, 43, 44, 45, 46] (by decide +kernel) (by decide +kernel)
set_option maxRecDepth 20000 in
theorem gX6_set_X6_finding : GoodIn wsX6_set (wsV RX6 70 RX6 yX6_finding wsX6_finding) := goodIn_app (goodIn_of _ (by decide +kernel)) ggX6_set_X6_finding
set_option maxRecDepth 20000 in
theorem ggX6_set_X3_put : GoodIn wsX6_set wsX3_put := goodIn_r _ [29, 30, 31, 47, 48, 49] (by decide +kernel) (by decide +kernel)
set_option maxRecDepth 20000 in
theorem gX6_set_X3_put : GoodIn wsX6_set (wsV RX6 85 RX3 yX3_put wsX3_put) := goodIn_app (goodIn_of _ (by decide +kernel)) ggX6_set_X3_put
set_option maxRecDepth 20000 in
theorem ggX6_set_X6_answered : GoodIn wsX6_set wsX6_answered := goodIn_r _ [35, 24, 36, 37, 38, 39, 40, 41, 42, 43, 44, 45, 46] (by decide +kernel) (by decide +kernel)
set_option maxRecDepth 20000 in
theorem gX6_set_X6_answered : GoodIn wsX6_set (wsV RX6 78 RX6 yX6_answered wsX6_answered) := goodIn_app (goodIn_of _ (by decide +kernel)) ggX6_set_X6_answered
theorem dX6_set_0 : decode cX6_set 0 = .ok (.iload_n 1, 1) := by decide +kernel
theorem dX6_set_1 : decode cX6_set 1 = .ok (.invokestatic 61, 3) := by decide +kernel
theorem dX6_set_4 : decode cX6_set 4 = .ok (.ifCond .ne 6, 3) := by decide +kernel
theorem dX6_set_7 : decode cX6_set 7 = .ok (.ldc 69, 2) := by decide +kernel
theorem dX6_set_9 : decode cX6_set 9 = .ok (.ireturn, 1) := by decide +kernel
theorem dX6_set_10 : decode cX6_set 10 = .ok (.aload_n 0, 1) := by decide +kernel
theorem dX6_set_11 : decode cX6_set 11 = .ok (.getfield 10, 3) := by decide +kernel
theorem dX6_set_14 : decode cX6_set 14 = .ok (.iload_n 1, 1) := by decide +kernel
theorem dX6_set_15 : decode cX6_set 15 = .ok (.iload_n 2, 1) := by decide +kernel
theorem dX6_set_16 : decode cX6_set 16 = .ok (.iconst 1, 1) := by decide +kernel
theorem dX6_set_17 : decode cX6_set 17 = .ok (.invokevirtual 81, 3) := by decide +kernel
theorem dX6_set_20 : decode cX6_set 20 = .ok (.istore 4, 2) := by decide +kernel
theorem dX6_set_22 : decode cX6_set 22 = .ok (.iload 4, 2) := by decide +kernel
theorem dX6_set_24 : decode cX6_set 24 = .ok (.ifCond .eq 10, 3) := by decide +kernel
theorem dX6_set_27 : decode cX6_set 27 = .ok (.aload_n 0, 1) := by decide +kernel
theorem dX6_set_28 : decode cX6_set 28 = .ok (.iload 4, 2) := by decide +kernel
theorem dX6_set_30 : decode cX6_set 30 = .ok (.invokevirtual 70, 3) := by decide +kernel
theorem dX6_set_33 : decode cX6_set 33 = .ok (.ireturn, 1) := by decide +kernel
theorem dX6_set_34 : decode cX6_set 34 = .ok (.aload_n 0, 1) := by decide +kernel
theorem dX6_set_35 : decode cX6_set 35 = .ok (.aload_n 0, 1) := by decide +kernel
theorem dX6_set_36 : decode cX6_set 36 = .ok (.getfield 10, 3) := by decide +kernel
theorem dX6_set_39 : decode cX6_set 39 = .ok (.iload_n 1, 1) := by decide +kernel
theorem dX6_set_40 : decode cX6_set 40 = .ok (.iload_n 2, 1) := by decide +kernel
theorem dX6_set_41 : decode cX6_set 41 = .ok (.iload_n 3, 1) := by decide +kernel
theorem dX6_set_42 : decode cX6_set 42 = .ok (.invokevirtual 85, 3) := by decide +kernel
theorem dX6_set_45 : decode cX6_set 45 = .ok (.invokevirtual 78, 3) := by decide +kernel
theorem dX6_set_48 : decode cX6_set 48 = .ok (.ireturn, 1) := by decide +kernel
set_option maxRecDepth 20000 in
theorem ggX6_copy_X6_isRow : GoodIn wsX6_copy wsX6_isRow := goodIn_r _ [6, 7, 8, 5, 9] (by decide +kernel) (by decide +kernel)
set_option maxRecDepth 20000 in
theorem gX6_copy_X6_isRow : GoodIn wsX6_copy (va_wsS RX6 61 yX6_isRow wsX6_isRow) := goodIn_app (goodIn_of _ (by decide +kernel)) ggX6_copy_X6_isRow
set_option maxRecDepth 20000 in
theorem ggX6_copy_X3_findingOfCopy : GoodIn wsX6_copy wsX3_findingOfCopy := goodIn_r _ [14, 15, 16, 17, 18, 13, 19, 20, 21, 22, 23, 24, 55, 56, 57] (by decide +kernel) (by decide +kernel)
set_option maxRecDepth 20000 in
theorem gX6_copy_X3_findingOfCopy : GoodIn wsX6_copy (wsV RX6 88 RX3 yX3_findingOfCopy wsX3_findingOfCopy) := goodIn_app (goodIn_of _ (by decide +kernel)) ggX6_copy_X3_findingOfCopy
set_option maxRecDepth 20000 in
theorem ggX6_copy_X6_finding : GoodIn wsX6_copy wsX6_finding := goodIn_r _ [28, 29, 30, 44, 45, 46, 47, 48, 49, 50, 51, 52, 53, 54] (by decide +kernel) (by decide +kernel)
set_option maxRecDepth 20000 in
theorem gX6_copy_X6_finding : GoodIn wsX6_copy (wsV RX6 70 RX6 yX6_finding wsX6_finding) := goodIn_app (goodIn_of _ (by decide +kernel)) ggX6_copy_X6_finding
set_option maxRecDepth 20000 in
theorem ggX6_copy_X3_move : GoodIn wsX6_copy wsX3_move := goodIn_r _ [34, 35, 36, 37, 38, 39, 55, 56, 57] (by decide +kernel) (by decide +kernel)
set_option maxRecDepth 20000 in
theorem gX6_copy_X3_move : GoodIn wsX6_copy (wsV RX6 92 RX3 yX3_move wsX3_move) := goodIn_app (goodIn_of _ (by decide +kernel)) ggX6_copy_X3_move
set_option maxRecDepth 20000 in
theorem ggX6_copy_X6_answered : GoodIn wsX6_copy wsX6_answered := goodIn_r _ [43, 29, 44, 45, 46, 47, 48, 49, 50, 51, 52, 53, 54] (by decide +kernel) (by decide +kernel)
set_option maxRecDepth 20000 in
theorem gX6_copy_X6_answered : GoodIn wsX6_copy (wsV RX6 78 RX6 yX6_answered wsX6_answered) := goodIn_app (goodIn_of _ (by decide +kernel)) ggX6_copy_X6_answered
theorem dX6_copy_0 : decode cX6_copy 0 = .ok (.iload_n 1, 1) := by decide +kernel
theorem dX6_copy_1 : decode cX6_copy 1 = .ok (.invokestatic 61, 3) := by decide +kernel
theorem dX6_copy_4 : decode cX6_copy 4 = .ok (.ifCond .eq 10, 3) := by decide +kernel
theorem dX6_copy_7 : decode cX6_copy 7 = .ok (.iload_n 3, 1) := by decide +kernel
theorem dX6_copy_8 : decode cX6_copy 8 = .ok (.invokestatic 61, 3) := by decide +kernel
theorem dX6_copy_11 : decode cX6_copy 11 = .ok (.ifCond .ne 6, 3) := by decide +kernel
theorem dX6_copy_14 : decode cX6_copy 14 = .ok (.ldc 69, 2) := by decide +kernel
theorem dX6_copy_16 : decode cX6_copy 16 = .ok (.ireturn, 1) := by decide +kernel
theorem dX6_copy_17 : decode cX6_copy 17 = .ok (.aload_n 0, 1) := by decide +kernel
theorem dX6_copy_18 : decode cX6_copy 18 = .ok (.getfield 10, 3) := by decide +kernel
theorem dX6_copy_21 : decode cX6_copy 21 = .ok (.iload_n 1, 1) := by decide +kernel
theorem dX6_copy_22 : decode cX6_copy 22 = .ok (.iload_n 2, 1) := by decide +kernel
theorem dX6_copy_23 : decode cX6_copy 23 = .ok (.iload_n 3, 1) := by decide +kernel
theorem dX6_copy_24 : decode cX6_copy 24 = .ok (.iload 4, 2) := by decide +kernel
theorem dX6_copy_26 : decode cX6_copy 26 = .ok (.iload 5, 2) := by decide +kernel
theorem dX6_copy_28 : decode cX6_copy 28 = .ok (.invokevirtual 88, 3) := by decide +kernel
theorem dX6_copy_31 : decode cX6_copy 31 = .ok (.istore 6, 2) := by decide +kernel
theorem dX6_copy_33 : decode cX6_copy 33 = .ok (.iload 6, 2) := by decide +kernel
theorem dX6_copy_35 : decode cX6_copy 35 = .ok (.ifCond .eq 10, 3) := by decide +kernel
theorem dX6_copy_38 : decode cX6_copy 38 = .ok (.aload_n 0, 1) := by decide +kernel
theorem dX6_copy_39 : decode cX6_copy 39 = .ok (.iload 6, 2) := by decide +kernel
theorem dX6_copy_41 : decode cX6_copy 41 = .ok (.invokevirtual 70, 3) := by decide +kernel
theorem dX6_copy_44 : decode cX6_copy 44 = .ok (.ireturn, 1) := by decide +kernel
theorem dX6_copy_45 : decode cX6_copy 45 = .ok (.aload_n 0, 1) := by decide +kernel
theorem dX6_copy_46 : decode cX6_copy 46 = .ok (.getfield 10, 3) := by decide +kernel
theorem dX6_copy_49 : decode cX6_copy 49 = .ok (.iload_n 1, 1) := by decide +kernel
theorem dX6_copy_50 : decode cX6_copy 50 = .ok (.iload_n 2, 1) := by decide +kernel
theorem dX6_copy_51 : decode cX6_copy 51 = .ok (.iload_n 3, 1) := by decide +kernel
theorem dX6_copy_52 : decode cX6_copy 52 = .ok (.iload 4, 2) := by decide +kernel
theorem dX6_copy_54 : decode cX6_copy 54 = .ok (.iload 5, 2) := by decide +kernel
theorem dX6_copy_56 : decode cX6_copy 56 = .ok (.invokevirtual 92, 3) := by decide +kernel
theorem dX6_copy_59 : decode cX6_copy 59 = .ok (.aload_n 0, 1) := by decide +kernel
theorem dX6_copy_60 : decode cX6_copy 60 = .ok (.iload 5, 2) := by decide +kernel
theorem dX6_copy_62 : decode cX6_copy 62 = .ok (.invokevirtual 78, 3) := by decide +kernel
theorem dX6_copy_65 : decode cX6_copy 65 = .ok (.ireturn, 1) := by decide +kernel
set_option maxRecDepth 20000 in
theorem ggX6_drop_X6_isRow : GoodIn wsX6_drop wsX6_isRow := goodIn_r _ [6, 7, 8, 5, 9] (by decide +kernel) (by decide +kernel)
set_option maxRecDepth 20000 in
theorem gX6_drop_X6_isRow : GoodIn wsX6_drop (va_wsS RX6 61 yX6_isRow wsX6_isRow) := goodIn_app (goodIn_of _ (by decide +kernel)) ggX6_drop_X6_isRow
set_option maxRecDepth 20000 in
theorem ggX6_drop_X3_isMissing : GoodIn wsX6_drop wsX3_isMissing := goodIn_r _ [14, 15, 41, 42, 43] (by decide +kernel) (by decide +kernel)
set_option maxRecDepth 20000 in
theorem gX6_drop_X3_isMissing : GoodIn wsX6_drop (wsV RX6 96 RX3 yX3_isMissing wsX3_isMissing) := goodIn_app (goodIn_of _ (by decide +kernel)) ggX6_drop_X3_isMissing
set_option maxRecDepth 20000 in
theorem ggX6_drop_X6_finding : GoodIn wsX6_drop wsX6_finding := goodIn_r _ [19, 20, 21, 30, 31, 32, 33, 34, 35, 36, 37, 38, 39, 40] (by decide +kernel) (by decide +kernel)
set_option maxRecDepth 20000 in
theorem gX6_drop_X6_finding : GoodIn wsX6_drop (wsV RX6 70 RX6 yX6_finding wsX6_finding) := goodIn_app (goodIn_of _ (by decide +kernel)) ggX6_drop_X6_finding
set_option maxRecDepth 20000 in
theorem ggX6_drop_X3_remove : GoodIn wsX6_drop wsX3_remove := goodIn_r _ [25, 15, 41, 42, 43] (by decide +kernel) (by decide +kernel)
set_option maxRecDepth 20000 in
theorem gX6_drop_X3_remove : GoodIn wsX6_drop (wsV RX6 99 RX3 yX3_remove wsX3_remove) := goodIn_app (goodIn_of _ (by decide +kernel)) ggX6_drop_X3_remove
set_option maxRecDepth 20000 in
theorem ggX6_drop_X6_answered : GoodIn wsX6_drop wsX6_answered := goodIn_r _ [29, 20, 30, 31, 32, 33, 34, 35, 36, 37, 38, 39, 40] (by decide +kernel) (by decide +kernel)
set_option maxRecDepth 20000 in
theorem gX6_drop_X6_answered : GoodIn wsX6_drop (wsV RX6 78 RX6 yX6_answered wsX6_answered) := goodIn_app (goodIn_of _ (by decide +kernel)) ggX6_drop_X6_answered
theorem dX6_drop_0 : decode cX6_drop 0 = .ok (.iload_n 1, 1) := by decide +kernel
theorem dX6_drop_1 : decode cX6_drop 1 = .ok (.invokestatic 61, 3) := by decide +kernel
theorem dX6_drop_4 : decode cX6_drop 4 = .ok (.ifCond .ne 6, 3) := by decide +kernel
theorem dX6_drop_7 : decode cX6_drop 7 = .ok (.ldc 69, 2) := by decide +kernel
theorem dX6_drop_9 : decode cX6_drop 9 = .ok (.ireturn, 1) := by decide +kernel
theorem dX6_drop_10 : decode cX6_drop 10 = .ok (.aload_n 0, 1) := by decide +kernel
theorem dX6_drop_11 : decode cX6_drop 11 = .ok (.getfield 10, 3) := by decide +kernel
theorem dX6_drop_14 : decode cX6_drop 14 = .ok (.iload_n 1, 1) := by decide +kernel
theorem dX6_drop_15 : decode cX6_drop 15 = .ok (.invokevirtual 96, 3) := by decide +kernel
theorem dX6_drop_18 : decode cX6_drop 18 = .ok (.ifCond .eq 9, 3) := by decide +kernel
theorem dX6_drop_21 : decode cX6_drop 21 = .ok (.aload_n 0, 1) := by decide +kernel
theorem dX6_drop_22 : decode cX6_drop 22 = .ok (.iconst 1, 1) := by decide +kernel
theorem dX6_drop_23 : decode cX6_drop 23 = .ok (.invokevirtual 70, 3) := by decide +kernel
theorem dX6_drop_26 : decode cX6_drop 26 = .ok (.ireturn, 1) := by decide +kernel
theorem dX6_drop_27 : decode cX6_drop 27 = .ok (.aload_n 0, 1) := by decide +kernel
theorem dX6_drop_28 : decode cX6_drop 28 = .ok (.aload_n 0, 1) := by decide +kernel
theorem dX6_drop_29 : decode cX6_drop 29 = .ok (.getfield 10, 3) := by decide +kernel
theorem dX6_drop_32 : decode cX6_drop 32 = .ok (.iload_n 1, 1) := by decide +kernel
theorem dX6_drop_33 : decode cX6_drop 33 = .ok (.invokevirtual 99, 3) := by decide +kernel
theorem dX6_drop_36 : decode cX6_drop 36 = .ok (.invokevirtual 78, 3) := by decide +kernel
theorem dX6_drop_39 : decode cX6_drop 39 = .ok (.ireturn, 1) := by decide +kernel
set_option maxRecDepth 20000 in
theorem ggX6_feed_X6_isWithin : GoodIn wsX6_feed wsX6_isWithin := goodIn_r _ [7] (by decide +kernel) (by decide +kernel)
set_option maxRecDepth 20000 in
theorem gX6_feed_X6_isWithin : GoodIn wsX6_feed (va_wsS RX6 65 yX6_isWithin wsX6_isWithin) := goodIn_app (goodIn_of _ (by decide +kernel)) ggX6_feed_X6_isWithin
set_option maxRecDepth 20000 in
theorem ggX6_feed_X5_isFull : GoodIn wsX6_feed wsX5_isFull := goodIn_r _ [12, 13, 31, 32, 33, 34] (by decide +kernel) (by decide +kernel)
set_option maxRecDepth 20000 in
theorem gX6_feed_X5_isFull : GoodIn wsX6_feed (wsV RX6 102 RX5 yX5_isFull wsX5_isFull) := goodIn_app (goodIn_of _ (by decide +kernel)) ggX6_feed_X5_isFull
set_option maxRecDepth 20000 in
theorem ggX6_feed_X5_add : GoodIn wsX6_feed wsX5_add := goodIn_r _ [17, 18, 13, 19, 9, 10, 11, 12, 31, 32, 33, 34] (by decide +kernel) (by decide +kernel)
set_option maxRecDepth 20000 in
theorem gX6_feed_X5_add : GoodIn wsX6_feed (wsV RX6 107 RX5 yX5_add wsX5_add) := goodIn_app (goodIn_of _ (by decide +kernel)) ggX6_feed_X5_add
theorem dX6_feed_0 : decode cX6_feed 0 = .ok (.iload_n 1, 1) := by decide +kernel
theorem dX6_feed_1 : decode cX6_feed 1 = .ok (.iconst 0, 1) := by decide +kernel
theorem dX6_feed_2 : decode cX6_feed 2 = .ok (.sipush 255, 3) := by decide +kernel
theorem dX6_feed_5 : decode cX6_feed 5 = .ok (.invokestatic 65, 3) := by decide +kernel
theorem dX6_feed_8 : decode cX6_feed 8 = .ok (.ifCond .ne 6, 3) := by decide +kernel
theorem dX6_feed_11 : decode cX6_feed 11 = .ok (.ldc 69, 2) := by decide +kernel
theorem dX6_feed_13 : decode cX6_feed 13 = .ok (.ireturn, 1) := by decide +kernel
theorem dX6_feed_14 : decode cX6_feed 14 = .ok (.aload_n 0, 1) := by decide +kernel
theorem dX6_feed_15 : decode cX6_feed 15 = .ok (.getfield 19, 3) := by decide +kernel
theorem dX6_feed_18 : decode cX6_feed 18 = .ok (.invokevirtual 102, 3) := by decide +kernel
theorem dX6_feed_21 : decode cX6_feed 21 = .ok (.ifCond .eq 6, 3) := by decide +kernel
theorem dX6_feed_24 : decode cX6_feed 24 = .ok (.ldc 106, 2) := by decide +kernel
theorem dX6_feed_26 : decode cX6_feed 26 = .ok (.ireturn, 1) := by decide +kernel
theorem dX6_feed_27 : decode cX6_feed 27 = .ok (.aload_n 0, 1) := by decide +kernel
theorem dX6_feed_28 : decode cX6_feed 28 = .ok (.getfield 19, 3) := by decide +kernel
theorem dX6_feed_31 : decode cX6_feed 31 = .ok (.iload_n 1, 1) := by decide +kernel
theorem dX6_feed_32 : decode cX6_feed 32 = .ok (.invokevirtual 107, 3) := by decide +kernel
theorem dX6_feed_35 : decode cX6_feed 35 = .ok (.ireturn, 1) := by decide +kernel
set_option maxRecDepth 20000 in
theorem ggX6_scales_X5_readInto : GoodIn wsX6_scales wsX5_readInto := goodIn_r _ [12, 13, 14, 15, 16, 17, 18, 19, 20, 21, 22, 23, 24, 25, 26, 27, 28, 29, 11, 30, 31, 32, 33, 34, 35, 36, 37, 38, 39, 40, 41, 42, 43, 44, 45, 46, 47, 48, 49, 50, 51, 52, 53, 54, 55, 56, 57, 58, 59, 60, 61, 62, 63, 64, 65, 66, 67, 68, 69, 70, 71, 119, 120, 121, 122, 106, 107, 108, 109, 110, 111, 112, 113, 114, 115, 116, 117, 118] (by decide +kernel) (by decide +kernel)
set_option maxRecDepth 20000 in
theorem gX6_scales_X5_readInto : GoodIn wsX6_scales (wsV RX6 110 RX5 yX5_readInto wsX5_readInto) := goodIn_app (goodIn_of _ (by decide +kernel)) ggX6_scales_X5_readInto
set_option maxRecDepth 20000 in
theorem ggX6_scales_X5_faultPlace : GoodIn wsX6_scales wsX5_faultPlace := goodIn_r _ [75, 13, 119, 120, 121, 122] (by decide +kernel) (by decide +kernel)
set_option maxRecDepth 20000 in
theorem gX6_scales_X5_faultPlace : GoodIn wsX6_scales (wsV RX6 119 RX5 yX5_faultPlace wsX5_faultPlace) := goodIn_app (goodIn_of _ (by decide +kernel)) ggX6_scales_X5_faultPlace
set_option maxRecDepth 20000 in
theorem ggX6_scales_X4_become : GoodIn wsX6_scales wsX4_become := goodIn_r _ [79, 22, 80, 81, 23, 24, 25, 82, 83, 84, 85, 86, 87, 26, 106, 107, 108, 109, 110, 111, 112, 113, 114, 115, 116, 117, 118] (by decide +kernel) (by decide +kernel)
set_option maxRecDepth 20000 in
theorem gX6_scales_X4_become : GoodIn wsX6_scales (wsV RX6 123 RX4 yX4_become wsX4_become) := goodIn_app (goodIn_of _ (by decide +kernel)) ggX6_scales_X4_become
set_option maxRecDepth 20000 in
theorem ggX6_scales_X0_forgetAll : GoodIn wsX6_scales wsX0_forgetAll := goodIn_r _ [92, 93, 94, 123, 124, 125, 126, 127, 128] (by decide +kernel) (by decide +kernel)
set_option maxRecDepth 20000 in
theorem gX6_scales_X0_forgetAll : GoodIn wsX6_scales (wsV RX6 127 RX0 yX0_forgetAll wsX0_forgetAll) := goodIn_app (goodIn_of _ (by decide +kernel)) ggX6_scales_X0_forgetAll
theorem dX6_scales_0 : decode cX6_scales 0 = .ok (.aload_n 0, 1) := by decide +kernel
theorem dX6_scales_1 : decode cX6_scales 1 = .ok (.getfield 19, 3) := by decide +kernel
theorem dX6_scales_4 : decode cX6_scales 4 = .ok (.aload_n 0, 1) := by decide +kernel
theorem dX6_scales_5 : decode cX6_scales 5 = .ok (.getfield 30, 3) := by decide +kernel
theorem dX6_scales_8 : decode cX6_scales 8 = .ok (.invokevirtual 110, 3) := by decide +kernel
theorem dX6_scales_11 : decode cX6_scales 11 = .ok (.istore_n 1, 1) := by decide +kernel
theorem dX6_scales_12 : decode cX6_scales 12 = .ok (.iload_n 1, 1) := by decide +kernel
theorem dX6_scales_13 : decode cX6_scales 13 = .ok (.ifCond .eq 19, 3) := by decide +kernel
theorem dX6_scales_16 : decode cX6_scales 16 = .ok (.aload_n 0, 1) := by decide +kernel
theorem dX6_scales_17 : decode cX6_scales 17 = .ok (.iload_n 1, 1) := by decide +kernel
theorem dX6_scales_18 : decode cX6_scales 18 = .ok (.putfield 114, 3) := by decide +kernel
theorem dX6_scales_21 : decode cX6_scales 21 = .ok (.ldc 118, 2) := by decide +kernel
theorem dX6_scales_23 : decode cX6_scales 23 = .ok (.aload_n 0, 1) := by decide +kernel
theorem dX6_scales_24 : decode cX6_scales 24 = .ok (.getfield 19, 3) := by decide +kernel
theorem dX6_scales_27 : decode cX6_scales 27 = .ok (.invokevirtual 119, 3) := by decide +kernel
theorem dX6_scales_30 : decode cX6_scales 30 = .ok (.isub, 1) := by decide +kernel
theorem dX6_scales_31 : decode cX6_scales 31 = .ok (.ireturn, 1) := by decide +kernel
theorem dX6_scales_32 : decode cX6_scales 32 = .ok (.aload_n 0, 1) := by decide +kernel
theorem dX6_scales_33 : decode cX6_scales 33 = .ok (.getfield 26, 3) := by decide +kernel
theorem dX6_scales_36 : decode cX6_scales 36 = .ok (.aload_n 0, 1) := by decide +kernel
theorem dX6_scales_37 : decode cX6_scales 37 = .ok (.getfield 30, 3) := by decide +kernel
theorem dX6_scales_40 : decode cX6_scales 40 = .ok (.invokevirtual 123, 3) := by decide +kernel
theorem dX6_scales_43 : decode cX6_scales 43 = .ok (.aload_n 0, 1) := by decide +kernel
theorem dX6_scales_44 : decode cX6_scales 44 = .ok (.getfield 43, 3) := by decide +kernel
theorem dX6_scales_47 : decode cX6_scales 47 = .ok (.invokevirtual 127, 3) := by decide +kernel
theorem dX6_scales_50 : decode cX6_scales 50 = .ok (.aload_n 0, 1) := by decide +kernel
theorem dX6_scales_51 : decode cX6_scales 51 = .ok (.getfield 26, 3) := by decide +kernel
theorem dX6_scales_54 : decode cX6_scales 54 = .ok (.getfield 130, 3) := by decide +kernel
theorem dX6_scales_57 : decode cX6_scales 57 = .ok (.ireturn, 1) := by decide +kernel
theorem dX6_fault_0 : decode cX6_fault 0 = .ok (.aload_n 0, 1) := by decide +kernel
theorem dX6_fault_1 : decode cX6_fault 1 = .ok (.getfield 114, 3) := by decide +kernel
theorem dX6_fault_4 : decode cX6_fault 4 = .ok (.ireturn, 1) := by decide +kernel
set_option maxRecDepth 20000 in
theorem ggX6_lay_X6_isPromise : GoodIn wsX6_lay wsX6_isPromise := goodIn_r _ [10, 2, 11, 75, 76, 77, 78, 79, 80, 81, 82, 83, 84, 85, 86, 87, 88, 89, 90, 91, 92, 93, 94, 95, 96, 97, 98] (by decide +kernel) (by decide +kernel)
set_option maxRecDepth 20000 in
theorem gX6_lay_X6_isPromise : GoodIn wsX6_lay (wsV RX6 133 RX6 yX6_isPromise wsX6_isPromise) := goodIn_app (goodIn_of _ (by decide +kernel)) ggX6_lay_X6_isPromise
set_option maxRecDepth 20000 in
theorem ggX6_lay_X6_isEither : GoodIn wsX6_lay wsX6_isEither := goodIn_r _ [14] (by decide +kernel) (by decide +kernel)
set_option maxRecDepth 20000 in
theorem gX6_lay_X6_isEither : GoodIn wsX6_lay (va_wsS RX6 136 yX6_isEither wsX6_isEither) := goodIn_app (goodIn_of _ (by decide +kernel)) ggX6_lay_X6_isEither
set_option maxRecDepth 20000 in
theorem ggX6_lay_X4_isSettled : GoodIn wsX6_lay wsX4_isSettled := goodIn_r _ [19, 20, 86, 87, 88, 89, 90, 91, 92, 93, 94, 95, 96, 97, 98] (by decide +kernel) (by decide +kernel)
set_option maxRecDepth 20000 in
theorem gX6_lay_X4_isSettled : GoodIn wsX6_lay (wsV RX6 139 RX4 yX4_isSettled wsX4_isSettled) := goodIn_app (goodIn_of _ (by decide +kernel)) ggX6_lay_X4_isSettled
set_option maxRecDepth 20000 in
theorem ggX6_lay_X4_isLaid : GoodIn wsX6_lay wsX4_isLaid := goodIn_r _ [24, 25, 86, 87, 88, 89, 90, 91, 92, 93, 94, 95, 96, 97, 98] (by decide +kernel) (by decide +kernel)
set_option maxRecDepth 20000 in
theorem gX6_lay_X4_isLaid : GoodIn wsX6_lay (wsV RX6 142 RX4 yX4_isLaid wsX4_isLaid) := goodIn_app (goodIn_of _ (by decide +kernel)) ggX6_lay_X4_isLaid
set_option maxRecDepth 20000 in
theorem ggX6_lay_X0_remember : GoodIn wsX6_lay wsX0_remember := goodIn_r _ [30, 31, 32, 33, 34, 35, 36, 37, 38, 39, 40, 99, 100, 101, 102, 103, 104, 86, 87, 88, 89, 90, 91, 92, 93, 94, 95, 96, 97, 98] (by decide +kernel) (by decide +kernel)
set_option maxRecDepth 20000 in
theorem gX6_lay_X0_remember : GoodIn wsX6_lay (wsV RX6 146 RX0 yX0_remember wsX0_remember) := goodIn_app (goodIn_of _ (by decide +kernel)) ggX6_lay_X0_remember
set_option maxRecDepth 20000 in
theorem ggX6_lay_X4_turn : GoodIn wsX6_lay wsX4_turn := goodIn_r _ [44, 25, 86, 87, 88, 89, 90, 91, 92, 93, 94, 95, 96, 97, 98] (by decide +kernel) (by decide +kernel)
set_option maxRecDepth 20000 in
theorem gX6_lay_X4_turn : GoodIn wsX6_lay (wsV RX6 150 RX4 yX4_turn wsX4_turn) := goodIn_app (goodIn_of _ (by decide +kernel)) ggX6_lay_X4_turn
set_option maxRecDepth 20000 in
theorem ggX6_lay_X4_readingOf : GoodIn wsX6_lay wsX4_readingOf := goodIn_r _ [48, 49, 50, 51, 52, 53, 54, 18, 55, 20, 56, 57, 16, 17, 19, 58, 59, 60, 61, 62, 63, 64, 65, 66, 67, 68, 69, 70, 71, 72, 73, 9, 74, 86, 87, 88, 89, 90, 91, 92, 93, 94, 95, 96, 97, 98] (by decide +kernel) (by decide +kernel)
set_option maxRecDepth 20000 in
theorem gX6_lay_X4_readingOf : GoodIn wsX6_lay (wsV RX6 157 RX4 yX4_readingOf wsX4_readingOf) := goodIn_app (goodIn_of _ (by decide +kernel)) ggX6_lay_X4_readingOf
theorem dX6_lay_0 : decode cX6_lay 0 = .ok (.aload_n 0, 1) := by decide +kernel
theorem dX6_lay_1 : decode cX6_lay 1 = .ok (.iload_n 1, 1) := by decide +kernel
theorem dX6_lay_2 : decode cX6_lay 2 = .ok (.invokevirtual 133, 3) := by decide +kernel
theorem dX6_lay_5 : decode cX6_lay 5 = .ok (.ifCond .eq 10, 3) := by decide +kernel
theorem dX6_lay_8 : decode cX6_lay 8 = .ok (.iload_n 2, 1) := by decide +kernel
theorem dX6_lay_9 : decode cX6_lay 9 = .ok (.invokestatic 136, 3) := by decide +kernel
theorem dX6_lay_12 : decode cX6_lay 12 = .ok (.ifCond .ne 6, 3) := by decide +kernel
theorem dX6_lay_15 : decode cX6_lay 15 = .ok (.ldc 69, 2) := by decide +kernel
theorem dX6_lay_17 : decode cX6_lay 17 = .ok (.ireturn, 1) := by decide +kernel
theorem dX6_lay_18 : decode cX6_lay 18 = .ok (.aload_n 0, 1) := by decide +kernel
theorem dX6_lay_19 : decode cX6_lay 19 = .ok (.getfield 26, 3) := by decide +kernel
theorem dX6_lay_22 : decode cX6_lay 22 = .ok (.iload_n 1, 1) := by decide +kernel
theorem dX6_lay_23 : decode cX6_lay 23 = .ok (.invokevirtual 139, 3) := by decide +kernel
theorem dX6_lay_26 : decode cX6_lay 26 = .ok (.ifCond .ne 24, 3) := by decide +kernel
theorem dX6_lay_29 : decode cX6_lay 29 = .ok (.aload_n 0, 1) := by decide +kernel
theorem dX6_lay_30 : decode cX6_lay 30 = .ok (.getfield 26, 3) := by decide +kernel
theorem dX6_lay_33 : decode cX6_lay 33 = .ok (.iload_n 1, 1) := by decide +kernel
theorem dX6_lay_34 : decode cX6_lay 34 = .ok (.invokevirtual 142, 3) := by decide +kernel
theorem dX6_lay_37 : decode cX6_lay 37 = .ok (.iload_n 2, 1) := by decide +kernel
theorem dX6_lay_38 : decode cX6_lay 38 = .ok (.iconst 1, 1) := by decide +kernel
theorem dX6_lay_39 : decode cX6_lay 39 = .ok (.if_icmp .ne 7, 3) := by decide +kernel
theorem dX6_lay_42 : decode cX6_lay 42 = .ok (.iconst 1, 1) := by decide +kernel
theorem dX6_lay_43 : decode cX6_lay 43 = .ok (.goto 4, 3) := by decide +kernel
theorem dX6_lay_46 : decode cX6_lay 46 = .ok (.iconst 0, 1) := by decide +kernel
theorem dX6_lay_47 : decode cX6_lay 47 = .ok (.if_icmp .ne 6, 3) := by decide +kernel
theorem dX6_lay_50 : decode cX6_lay 50 = .ok (.ldc 145, 2) := by decide +kernel
theorem dX6_lay_52 : decode cX6_lay 52 = .ok (.ireturn, 1) := by decide +kernel
theorem dX6_lay_53 : decode cX6_lay 53 = .ok (.aload_n 0, 1) := by decide +kernel
theorem dX6_lay_54 : decode cX6_lay 54 = .ok (.getfield 43, 3) := by decide +kernel
theorem dX6_lay_57 : decode cX6_lay 57 = .ok (.aload_n 0, 1) := by decide +kernel
theorem dX6_lay_58 : decode cX6_lay 58 = .ok (.getfield 26, 3) := by decide +kernel
theorem dX6_lay_61 : decode cX6_lay 61 = .ok (.iload_n 1, 1) := by decide +kernel
theorem dX6_lay_62 : decode cX6_lay 62 = .ok (.invokevirtual 146, 3) := by decide +kernel
theorem dX6_lay_65 : decode cX6_lay 65 = .ok (.aload_n 0, 1) := by decide +kernel
theorem dX6_lay_66 : decode cX6_lay 66 = .ok (.getfield 26, 3) := by decide +kernel
theorem dX6_lay_69 : decode cX6_lay 69 = .ok (.iload_n 1, 1) := by decide +kernel
theorem dX6_lay_70 : decode cX6_lay 70 = .ok (.invokevirtual 150, 3) := by decide +kernel
theorem dX6_lay_73 : decode cX6_lay 73 = .ok (.aload_n 0, 1) := by decide +kernel
theorem dX6_lay_74 : decode cX6_lay 74 = .ok (.getfield 26, 3) := by decide +kernel
theorem dX6_lay_77 : decode cX6_lay 77 = .ok (.aload_n 0, 1) := by decide +kernel
theorem dX6_lay_78 : decode cX6_lay 78 = .ok (.getfield 26, 3) := by decide +kernel
theorem dX6_lay_81 : decode cX6_lay 81 = .ok (.getfield 154, 3) := by decide +kernel
theorem dX6_lay_84 : decode cX6_lay 84 = .ok (.invokevirtual 157, 3) := by decide +kernel
theorem dX6_lay_87 : decode cX6_lay 87 = .ok (.ireturn, 1) := by decide +kernel
set_option maxRecDepth 20000 in
theorem ggX6_settle_X6_isPromise : GoodIn wsX6_settle wsX6_isPromise := goodIn_r _ [11, 2, 12, 51, 52, 53, 54, 55, 56, 57, 58, 59, 60, 61, 62, 63, 64, 65, 66, 67, 68, 69, 70, 71, 72, 73, 74] (by decide +kernel) (by decide +kernel)
set_option maxRecDepth 20000 in
theorem gX6_settle_X6_isPromise : GoodIn wsX6_settle (wsV RX6 133 RX6 yX6_isPromise wsX6_isPromise) := goodIn_app (goodIn_of _ (by decide +kernel)) ggX6_settle_X6_isPromise
set_option maxRecDepth 20000 in
theorem ggX6_settle_X6_isEither : GoodIn wsX6_settle wsX6_isEither := goodIn_r _ [15] (by decide +kernel) (by decide +kernel)
set_option maxRecDepth 20000 in
theorem gX6_settle_X6_isEither : GoodIn wsX6_settle (va_wsS RX6 136 yX6_isEither wsX6_isEither) := goodIn_app (goodIn_of _ (by decide +kernel)) ggX6_settle_X6_isEither
set_option maxRecDepth 20000 in
theorem ggX6_settle_X4_isSettled : GoodIn wsX6_settle wsX4_isSettled := goodIn_r _ [20, 21, 62, 63, 64, 65, 66, 67, 68, 69, 70, 71, 72, 73, 74] (by decide +kernel) (by decide +kernel)
set_option maxRecDepth 20000 in
theorem gX6_settle_X4_isSettled : GoodIn wsX6_settle (wsV RX6 139 RX4 yX4_isSettled wsX4_isSettled) := goodIn_app (goodIn_of _ (by decide +kernel)) ggX6_settle_X4_isSettled
set_option maxRecDepth 20000 in
theorem ggX6_settle_X0_remember : GoodIn wsX6_settle wsX0_remember := goodIn_r _ [26, 27, 28, 29, 30, 31, 32, 33, 34, 35, 36, 75, 76, 77, 78, 79, 80, 62, 63, 64, 65, 66, 67, 68, 69, 70, 71, 72, 73, 74] (by decide +kernel) (by decide +kernel)
set_option maxRecDepth 20000 in
theorem gX6_settle_X0_remember : GoodIn wsX6_settle (wsV RX6 146 RX0 yX0_remember wsX0_remember) := goodIn_app (goodIn_of _ (by decide +kernel)) ggX6_settle_X0_remember
set_option maxRecDepth 20000 in
theorem ggX6_settle_X4_settleOne : GoodIn wsX6_settle wsX4_settleOne := goodIn_r _ [40, 41, 21, 42, 43, 44, 45, 46, 47, 48, 49, 50, 62, 63, 64, 65, 66, 67, 68, 69, 70, 71, 72, 73, 74] (by decide +kernel) (by decide +kernel)
set_option maxRecDepth 20000 in
theorem gX6_settle_X4_settleOne : GoodIn wsX6_settle (wsV RX6 160 RX4 yX4_settleOne wsX4_settleOne) := goodIn_app (goodIn_of _ (by decide +kernel)) ggX6_settle_X4_settleOne
theorem dX6_settle_0 : decode cX6_settle 0 = .ok (.aload_n 0, 1) := by decide +kernel
theorem dX6_settle_1 : decode cX6_settle 1 = .ok (.iload_n 1, 1) := by decide +kernel
theorem dX6_settle_2 : decode cX6_settle 2 = .ok (.invokevirtual 133, 3) := by decide +kernel
theorem dX6_settle_5 : decode cX6_settle 5 = .ok (.ifCond .eq 10, 3) := by decide +kernel
theorem dX6_settle_8 : decode cX6_settle 8 = .ok (.iload_n 2, 1) := by decide +kernel
theorem dX6_settle_9 : decode cX6_settle 9 = .ok (.invokestatic 136, 3) := by decide +kernel
theorem dX6_settle_12 : decode cX6_settle 12 = .ok (.ifCond .ne 6, 3) := by decide +kernel
theorem dX6_settle_15 : decode cX6_settle 15 = .ok (.ldc 69, 2) := by decide +kernel
theorem dX6_settle_17 : decode cX6_settle 17 = .ok (.ireturn, 1) := by decide +kernel
theorem dX6_settle_18 : decode cX6_settle 18 = .ok (.aload_n 0, 1) := by decide +kernel
theorem dX6_settle_19 : decode cX6_settle 19 = .ok (.getfield 26, 3) := by decide +kernel
theorem dX6_settle_22 : decode cX6_settle 22 = .ok (.iload_n 1, 1) := by decide +kernel
theorem dX6_settle_23 : decode cX6_settle 23 = .ok (.invokevirtual 139, 3) := by decide +kernel
theorem dX6_settle_26 : decode cX6_settle 26 = .ok (.ifCond .eq 6, 3) := by decide +kernel
theorem dX6_settle_29 : decode cX6_settle 29 = .ok (.ldc 145, 2) := by decide +kernel
theorem dX6_settle_31 : decode cX6_settle 31 = .ok (.ireturn, 1) := by decide +kernel
theorem dX6_settle_32 : decode cX6_settle 32 = .ok (.aload_n 0, 1) := by decide +kernel
theorem dX6_settle_33 : decode cX6_settle 33 = .ok (.getfield 43, 3) := by decide +kernel
theorem dX6_settle_36 : decode cX6_settle 36 = .ok (.aload_n 0, 1) := by decide +kernel
theorem dX6_settle_37 : decode cX6_settle 37 = .ok (.getfield 26, 3) := by decide +kernel
theorem dX6_settle_40 : decode cX6_settle 40 = .ok (.iload_n 1, 1) := by decide +kernel
theorem dX6_settle_41 : decode cX6_settle 41 = .ok (.invokevirtual 146, 3) := by decide +kernel
theorem dX6_settle_44 : decode cX6_settle 44 = .ok (.aload_n 0, 1) := by decide +kernel
theorem dX6_settle_45 : decode cX6_settle 45 = .ok (.getfield 26, 3) := by decide +kernel
theorem dX6_settle_48 : decode cX6_settle 48 = .ok (.iload_n 1, 1) := by decide +kernel
theorem dX6_settle_49 : decode cX6_settle 49 = .ok (.iload_n 2, 1) := by decide +kernel
theorem dX6_settle_50 : decode cX6_settle 50 = .ok (.iconst 1, 1) := by decide +kernel
theorem dX6_settle_51 : decode cX6_settle 51 = .ok (.if_icmp .ne 7, 3) := by decide +kernel
theorem dX6_settle_54 : decode cX6_settle 54 = .ok (.iconst 1, 1) := by decide +kernel
theorem dX6_settle_55 : decode cX6_settle 55 = .ok (.goto 4, 3) := by decide +kernel
theorem dX6_settle_58 : decode cX6_settle 58 = .ok (.iconst 0, 1) := by decide +kernel
theorem dX6_settle_59 : decode cX6_settle 59 = .ok (.invokevirtual 160, 3) := by decide +kernel
theorem dX6_settle_62 : decode cX6_settle 62 = .ok (.aload_n 0, 1) := by decide +kernel
theorem dX6_settle_63 : decode cX6_settle 63 = .ok (.getfield 26, 3) := by decide +kernel
theorem dX6_settle_66 : decode cX6_settle 66 = .ok (.getfield 164, 3) := by decide +kernel
theorem dX6_settle_69 : decode cX6_settle 69 = .ok (.aload_n 0, 1) := by decide +kernel
theorem dX6_settle_70 : decode cX6_settle 70 = .ok (.getfield 26, 3) := by decide +kernel
theorem dX6_settle_73 : decode cX6_settle 73 = .ok (.getfield 168, 3) := by decide +kernel
theorem dX6_settle_76 : decode cX6_settle 76 = .ok (.iload_n 1, 1) := by decide +kernel
theorem dX6_settle_77 : decode cX6_settle 77 = .ok (.iaload, 1) := by decide +kernel
theorem dX6_settle_78 : decode cX6_settle 78 = .ok (.iaload, 1) := by decide +kernel
theorem dX6_settle_79 : decode cX6_settle 79 = .ok (.ireturn, 1) := by decide +kernel
set_option maxRecDepth 20000 in
theorem ggX6_wax_X6_isWithin : GoodIn wsX6_wax wsX6_isWithin := goodIn_r _ [10] (by decide +kernel) (by decide +kernel)
set_option maxRecDepth 20000 in
theorem gX6_wax_X6_isWithin : GoodIn wsX6_wax (va_wsS RX6 65 yX6_isWithin wsX6_isWithin) := goodIn_app (goodIn_of _ (by decide +kernel)) ggX6_wax_X6_isWithin
set_option maxRecDepth 20000 in
theorem ggX6_wax_X0_remember : GoodIn wsX6_wax wsX0_remember := goodIn_r _ [15, 16, 17, 18, 19, 20, 21, 22, 23, 24, 25, 50, 51, 52, 53, 54, 55, 37, 38, 39, 40, 41, 42, 43, 44, 45, 46, 47, 48, 49] (by decide +kernel) (by decide +kernel)
set_option maxRecDepth 20000 in
theorem gX6_wax_X0_remember : GoodIn wsX6_wax (wsV RX6 146 RX0 yX0_remember wsX0_remember) := goodIn_app (goodIn_of _ (by decide +kernel)) ggX6_wax_X0_remember
theorem dX6_wax_0 : decode cX6_wax 0 = .ok (.aload_n 0, 1) := by decide +kernel
theorem dX6_wax_1 : decode cX6_wax 1 = .ok (.getfield 26, 3) := by decide +kernel
theorem dX6_wax_4 : decode cX6_wax 4 = .ok (.getfield 171, 3) := by decide +kernel
theorem dX6_wax_7 : decode cX6_wax 7 = .ok (.ifCond .ne 6, 3) := by decide +kernel
theorem dX6_wax_10 : decode cX6_wax 10 = .ok (.ldc 145, 2) := by decide +kernel
theorem dX6_wax_12 : decode cX6_wax 12 = .ok (.ireturn, 1) := by decide +kernel
theorem dX6_wax_13 : decode cX6_wax 13 = .ok (.iload_n 1, 1) := by decide +kernel
theorem dX6_wax_14 : decode cX6_wax 14 = .ok (.iconst 0, 1) := by decide +kernel
theorem dX6_wax_15 : decode cX6_wax 15 = .ok (.bipush 9, 2) := by decide +kernel
theorem dX6_wax_17 : decode cX6_wax 17 = .ok (.invokestatic 65, 3) := by decide +kernel
theorem dX6_wax_20 : decode cX6_wax 20 = .ok (.ifCond .ne 6, 3) := by decide +kernel
theorem dX6_wax_23 : decode cX6_wax 23 = .ok (.ldc 69, 2) := by decide +kernel
theorem dX6_wax_25 : decode cX6_wax 25 = .ok (.ireturn, 1) := by decide +kernel
theorem dX6_wax_26 : decode cX6_wax 26 = .ok (.aload_n 0, 1) := by decide +kernel
theorem dX6_wax_27 : decode cX6_wax 27 = .ok (.getfield 43, 3) := by decide +kernel
theorem dX6_wax_30 : decode cX6_wax 30 = .ok (.aload_n 0, 1) := by decide +kernel
theorem dX6_wax_31 : decode cX6_wax 31 = .ok (.getfield 26, 3) := by decide +kernel
theorem dX6_wax_34 : decode cX6_wax 34 = .ok (.iconst (-1), 1) := by decide +kernel
theorem dX6_wax_35 : decode cX6_wax 35 = .ok (.invokevirtual 146, 3) := by decide +kernel
theorem dX6_wax_38 : decode cX6_wax 38 = .ok (.aload_n 0, 1) := by decide +kernel
theorem dX6_wax_39 : decode cX6_wax 39 = .ok (.getfield 26, 3) := by decide +kernel
theorem dX6_wax_42 : decode cX6_wax 42 = .ok (.getfield 175, 3) := by decide +kernel
theorem dX6_wax_45 : decode cX6_wax 45 = .ok (.istore_n 2, 1) := by decide +kernel
theorem dX6_wax_46 : decode cX6_wax 46 = .ok (.aload_n 0, 1) := by decide +kernel
theorem dX6_wax_47 : decode cX6_wax 47 = .ok (.getfield 26, 3) := by decide +kernel
theorem dX6_wax_50 : decode cX6_wax 50 = .ok (.iload_n 1, 1) := by decide +kernel
theorem dX6_wax_51 : decode cX6_wax 51 = .ok (.putfield 175, 3) := by decide +kernel
theorem dX6_wax_54 : decode cX6_wax 54 = .ok (.iload_n 2, 1) := by decide +kernel
theorem dX6_wax_55 : decode cX6_wax 55 = .ok (.ireturn, 1) := by decide +kernel
set_option maxRecDepth 20000 in
theorem ggX6_undo_X0_takeBack : GoodIn wsX6_undo wsX0_takeBack := goodIn_r _ [9, 10, 11, 12, 13, 14, 15, 16, 17, 18, 19, 20, 32, 33, 34, 35, 36, 37, 38, 39, 40, 41, 42, 43, 44, 45, 46, 47, 48, 49, 50] (by decide +kernel) (by decide +kernel)
set_option maxRecDepth 20000 in
theorem gX6_undo_X0_takeBack : GoodIn wsX6_undo (wsV RX6 181 RX0 yX0_takeBack wsX0_takeBack) := goodIn_app (goodIn_of _ (by decide +kernel)) ggX6_undo_X0_takeBack
theorem dX6_undo_0 : decode cX6_undo 0 = .ok (.aload_n 0, 1) := by decide +kernel
theorem dX6_undo_1 : decode cX6_undo 1 = .ok (.getfield 43, 3) := by decide +kernel
theorem dX6_undo_4 : decode cX6_undo 4 = .ok (.getfield 178, 3) := by decide +kernel
theorem dX6_undo_7 : decode cX6_undo 7 = .ok (.ifCond .ne 6, 3) := by decide +kernel
theorem dX6_undo_10 : decode cX6_undo 10 = .ok (.ldc 145, 2) := by decide +kernel
theorem dX6_undo_12 : decode cX6_undo 12 = .ok (.ireturn, 1) := by decide +kernel
theorem dX6_undo_13 : decode cX6_undo 13 = .ok (.aload_n 0, 1) := by decide +kernel
theorem dX6_undo_14 : decode cX6_undo 14 = .ok (.getfield 43, 3) := by decide +kernel
theorem dX6_undo_17 : decode cX6_undo 17 = .ok (.aload_n 0, 1) := by decide +kernel
theorem dX6_undo_18 : decode cX6_undo 18 = .ok (.getfield 26, 3) := by decide +kernel
theorem dX6_undo_21 : decode cX6_undo 21 = .ok (.invokevirtual 181, 3) := by decide +kernel
theorem dX6_undo_24 : decode cX6_undo 24 = .ok (.aload_n 0, 1) := by decide +kernel
theorem dX6_undo_25 : decode cX6_undo 25 = .ok (.getfield 43, 3) := by decide +kernel
theorem dX6_undo_28 : decode cX6_undo 28 = .ok (.getfield 178, 3) := by decide +kernel
theorem dX6_undo_31 : decode cX6_undo 31 = .ok (.ireturn, 1) := by decide +kernel
set_option maxRecDepth 20000 in
theorem ggX6_promise_X6_isPromise : GoodIn wsX6_promise wsX6_isPromise := goodIn_r _ [12, 2, 13, 49, 50, 51, 52, 53, 54, 55, 56, 57, 58, 59, 60, 61, 62, 63, 64, 65, 66, 67, 68, 69, 70, 71, 72] (by decide +kernel) (by decide +kernel)
set_option maxRecDepth 20000 in
theorem gX6_promise_X6_isPromise : GoodIn wsX6_promise (wsV RX6 133 RX6 yX6_isPromise wsX6_isPromise) := goodIn_app (goodIn_of _ (by decide +kernel)) ggX6_promise_X6_isPromise
set_option maxRecDepth 20000 in
theorem ggX6_promise_X4_weightOf : GoodIn wsX6_promise wsX4_weightOf := goodIn_r _ [18, 19, 20, 21, 17, 22, 23, 24, 25, 26, 27, 28, 29, 30, 31, 32, 33, 34, 35, 36, 37, 38, 39, 40, 41, 42, 43, 60, 61, 62, 63, 64, 65, 66, 67, 68, 69, 70, 71, 72] (by decide +kernel) (by decide +kernel)
set_option maxRecDepth 20000 in
theorem gX6_promise_X4_weightOf : GoodIn wsX6_promise (wsV RX6 193 RX4 yX4_weightOf wsX4_weightOf) := goodIn_app (goodIn_of _ (by decide +kernel)) ggX6_promise_X4_weightOf
set_option maxRecDepth 20000 in
theorem ggX6_promise_X4_isLaid : GoodIn wsX6_promise wsX4_isLaid := goodIn_r _ [47, 48, 60, 61, 62, 63, 64, 65, 66, 67, 68, 69, 70, 71, 72] (by decide +kernel) (by decide +kernel)
set_option maxRecDepth 20000 in
theorem gX6_promise_X4_isLaid : GoodIn wsX6_promise (wsV RX6 142 RX4 yX4_isLaid wsX4_isLaid) := goodIn_app (goodIn_of _ (by decide +kernel)) ggX6_promise_X4_isLaid
theorem dX6_promise_0 : decode cX6_promise 0 = .ok (.aload_n 0, 1) := by decide +kernel
theorem dX6_promise_1 : decode cX6_promise 1 = .ok (.iload_n 1, 1) := by decide +kernel
theorem dX6_promise_2 : decode cX6_promise 2 = .ok (.invokevirtual 133, 3) := by decide +kernel
theorem dX6_promise_5 : decode cX6_promise 5 = .ok (.ifCond .ne 6, 3) := by decide +kernel
theorem dX6_promise_8 : decode cX6_promise 8 = .ok (.ldc 69, 2) := by decide +kernel
theorem dX6_promise_10 : decode cX6_promise 10 = .ok (.ireturn, 1) := by decide +kernel
theorem dX6_promise_11 : decode cX6_promise 11 = .ok (.iload_n 2, 1) := by decide +kernel
theorem dX6_promise_12 : decode cX6_promise 12 = .ok (.tableswitch 120 0 6 #[44, 54, 64, 74, 84, 93, 103], 44) := by decide +kernel
theorem dX6_promise_56 : decode cX6_promise 56 = .ok (.aload_n 0, 1) := by decide +kernel
theorem dX6_promise_57 : decode cX6_promise 57 = .ok (.getfield 26, 3) := by decide +kernel
theorem dX6_promise_60 : decode cX6_promise 60 = .ok (.getfield 168, 3) := by decide +kernel
theorem dX6_promise_63 : decode cX6_promise 63 = .ok (.iload_n 1, 1) := by decide +kernel
theorem dX6_promise_64 : decode cX6_promise 64 = .ok (.iaload, 1) := by decide +kernel
theorem dX6_promise_65 : decode cX6_promise 65 = .ok (.ireturn, 1) := by decide +kernel
theorem dX6_promise_66 : decode cX6_promise 66 = .ok (.aload_n 0, 1) := by decide +kernel
theorem dX6_promise_67 : decode cX6_promise 67 = .ok (.getfield 26, 3) := by decide +kernel
theorem dX6_promise_70 : decode cX6_promise 70 = .ok (.getfield 184, 3) := by decide +kernel
theorem dX6_promise_73 : decode cX6_promise 73 = .ok (.iload_n 1, 1) := by decide +kernel
theorem dX6_promise_74 : decode cX6_promise 74 = .ok (.iaload, 1) := by decide +kernel
theorem dX6_promise_75 : decode cX6_promise 75 = .ok (.ireturn, 1) := by decide +kernel
theorem dX6_promise_76 : decode cX6_promise 76 = .ok (.aload_n 0, 1) := by decide +kernel
theorem dX6_promise_77 : decode cX6_promise 77 = .ok (.getfield 26, 3) := by decide +kernel
theorem dX6_promise_80 : decode cX6_promise 80 = .ok (.getfield 187, 3) := by decide +kernel
theorem dX6_promise_83 : decode cX6_promise 83 = .ok (.iload_n 1, 1) := by decide +kernel
theorem dX6_promise_84 : decode cX6_promise 84 = .ok (.iaload, 1) := by decide +kernel
theorem dX6_promise_85 : decode cX6_promise 85 = .ok (.ireturn, 1) := by decide +kernel
theorem dX6_promise_86 : decode cX6_promise 86 = .ok (.aload_n 0, 1) := by decide +kernel
theorem dX6_promise_87 : decode cX6_promise 87 = .ok (.getfield 26, 3) := by decide +kernel
theorem dX6_promise_90 : decode cX6_promise 90 = .ok (.getfield 190, 3) := by decide +kernel
theorem dX6_promise_93 : decode cX6_promise 93 = .ok (.iload_n 1, 1) := by decide +kernel
theorem dX6_promise_94 : decode cX6_promise 94 = .ok (.iaload, 1) := by decide +kernel
theorem dX6_promise_95 : decode cX6_promise 95 = .ok (.ireturn, 1) := by decide +kernel
theorem dX6_promise_96 : decode cX6_promise 96 = .ok (.aload_n 0, 1) := by decide +kernel
theorem dX6_promise_97 : decode cX6_promise 97 = .ok (.getfield 26, 3) := by decide +kernel
theorem dX6_promise_100 : decode cX6_promise 100 = .ok (.iload_n 1, 1) := by decide +kernel
theorem dX6_promise_101 : decode cX6_promise 101 = .ok (.invokevirtual 193, 3) := by decide +kernel
theorem dX6_promise_104 : decode cX6_promise 104 = .ok (.ireturn, 1) := by decide +kernel
theorem dX6_promise_105 : decode cX6_promise 105 = .ok (.aload_n 0, 1) := by decide +kernel
theorem dX6_promise_106 : decode cX6_promise 106 = .ok (.getfield 26, 3) := by decide +kernel
theorem dX6_promise_109 : decode cX6_promise 109 = .ok (.getfield 196, 3) := by decide +kernel
theorem dX6_promise_112 : decode cX6_promise 112 = .ok (.iload_n 1, 1) := by decide +kernel
theorem dX6_promise_113 : decode cX6_promise 113 = .ok (.iaload, 1) := by decide +kernel
theorem dX6_promise_114 : decode cX6_promise 114 = .ok (.ireturn, 1) := by decide +kernel
theorem dX6_promise_115 : decode cX6_promise 115 = .ok (.aload_n 0, 1) := by decide +kernel
theorem dX6_promise_116 : decode cX6_promise 116 = .ok (.getfield 26, 3) := by decide +kernel
theorem dX6_promise_119 : decode cX6_promise 119 = .ok (.iload_n 1, 1) := by decide +kernel
theorem dX6_promise_120 : decode cX6_promise 120 = .ok (.invokevirtual 142, 3) := by decide +kernel
theorem dX6_promise_123 : decode cX6_promise 123 = .ok (.ifCond .eq 7, 3) := by decide +kernel
theorem dX6_promise_126 : decode cX6_promise 126 = .ok (.iconst 1, 1) := by decide +kernel
theorem dX6_promise_127 : decode cX6_promise 127 = .ok (.goto 4, 3) := by decide +kernel
theorem dX6_promise_130 : decode cX6_promise 130 = .ok (.iconst 0, 1) := by decide +kernel
theorem dX6_promise_131 : decode cX6_promise 131 = .ok (.ireturn, 1) := by decide +kernel
theorem dX6_promise_132 : decode cX6_promise 132 = .ok (.ldc 69, 2) := by decide +kernel
theorem dX6_promise_134 : decode cX6_promise 134 = .ok (.ireturn, 1) := by decide +kernel
set_option maxRecDepth 20000 in
theorem ggX6_keeps_X6_isGiver : GoodIn wsX6_keeps wsX6_isGiver := goodIn_r _ [8, 1, 9, 10, 11, 12, 13, 14, 15, 16, 17, 18, 19, 20, 21, 22, 23, 24, 25, 26, 27, 28, 29, 30, 31, 32, 33] (by decide +kernel) (by decide +kernel)
set_option maxRecDepth 20000 in
theorem gX6_keeps_X6_isGiver : GoodIn wsX6_keeps (wsV RX6 199 RX6 yX6_isGiver wsX6_isGiver) := goodIn_app (goodIn_of _ (by decide +kernel)) ggX6_keeps_X6_isGiver
theorem dX6_keeps_0 : decode cX6_keeps 0 = .ok (.aload_n 0, 1) := by decide +kernel
theorem dX6_keeps_1 : decode cX6_keeps 1 = .ok (.iload_n 1, 1) := by decide +kernel
theorem dX6_keeps_2 : decode cX6_keeps 2 = .ok (.invokevirtual 199, 3) := by decide +kernel
theorem dX6_keeps_5 : decode cX6_keeps 5 = .ok (.ifCond .eq 15, 3) := by decide +kernel
theorem dX6_keeps_8 : decode cX6_keeps 8 = .ok (.aload_n 0, 1) := by decide +kernel
theorem dX6_keeps_9 : decode cX6_keeps 9 = .ok (.getfield 26, 3) := by decide +kernel
theorem dX6_keeps_12 : decode cX6_keeps 12 = .ok (.getfield 164, 3) := by decide +kernel
theorem dX6_keeps_15 : decode cX6_keeps 15 = .ok (.iload_n 1, 1) := by decide +kernel
theorem dX6_keeps_16 : decode cX6_keeps 16 = .ok (.iaload, 1) := by decide +kernel
theorem dX6_keeps_17 : decode cX6_keeps 17 = .ok (.goto 5, 3) := by decide +kernel
theorem dX6_keeps_20 : decode cX6_keeps 20 = .ok (.ldc 69, 2) := by decide +kernel
theorem dX6_keeps_22 : decode cX6_keeps 22 = .ok (.ireturn, 1) := by decide +kernel
set_option maxRecDepth 20000 in
theorem ggX6_reads_X4_isSet : GoodIn wsX6_reads wsX4_isSet := goodIn_r _ [9, 10, 56, 57, 58, 59, 60, 61, 62, 63, 64, 65, 66, 67, 68] (by decide +kernel) (by decide +kernel)
set_option maxRecDepth 20000 in
theorem gX6_reads_X4_isSet : GoodIn wsX6_reads (wsV RX6 202 RX4 yX4_isSet wsX4_isSet) := goodIn_app (goodIn_of _ (by decide +kernel)) ggX6_reads_X4_isSet
set_option maxRecDepth 20000 in
theorem ggX6_reads_X4_readingOf : GoodIn wsX6_reads wsX4_readingOf := goodIn_r _ [14, 15, 10, 16, 17, 18, 19, 8, 20, 21, 22, 23, 24, 25, 26, 27, 28, 29, 30, 31, 32, 33, 34, 35, 36, 37, 38, 39, 40, 41, 42, 43, 44, 56, 57, 58, 59, 60, 61, 62, 63, 64, 65, 66, 67, 68] (by decide +kernel) (by decide +kernel)
set_option maxRecDepth 20000 in
theorem gX6_reads_X4_readingOf : GoodIn wsX6_reads (wsV RX6 157 RX4 yX4_readingOf wsX4_readingOf) := goodIn_app (goodIn_of _ (by decide +kernel)) ggX6_reads_X4_readingOf
theorem dX6_reads_0 : decode cX6_reads 0 = .ok (.aload_n 0, 1) := by decide +kernel
theorem dX6_reads_1 : decode cX6_reads 1 = .ok (.getfield 26, 3) := by decide +kernel
theorem dX6_reads_4 : decode cX6_reads 4 = .ok (.getfield 171, 3) := by decide +kernel
theorem dX6_reads_7 : decode cX6_reads 7 = .ok (.ifCond .ne 6, 3) := by decide +kernel
theorem dX6_reads_10 : decode cX6_reads 10 = .ok (.ldc 145, 2) := by decide +kernel
theorem dX6_reads_12 : decode cX6_reads 12 = .ok (.ireturn, 1) := by decide +kernel
theorem dX6_reads_13 : decode cX6_reads 13 = .ok (.aload_n 0, 1) := by decide +kernel
theorem dX6_reads_14 : decode cX6_reads 14 = .ok (.getfield 26, 3) := by decide +kernel
theorem dX6_reads_17 : decode cX6_reads 17 = .ok (.iload_n 1, 1) := by decide +kernel
theorem dX6_reads_18 : decode cX6_reads 18 = .ok (.invokevirtual 202, 3) := by decide +kernel
theorem dX6_reads_21 : decode cX6_reads 21 = .ok (.ifCond .eq 14, 3) := by decide +kernel
theorem dX6_reads_24 : decode cX6_reads 24 = .ok (.aload_n 0, 1) := by decide +kernel
theorem dX6_reads_25 : decode cX6_reads 25 = .ok (.getfield 26, 3) := by decide +kernel
theorem dX6_reads_28 : decode cX6_reads 28 = .ok (.iload_n 1, 1) := by decide +kernel
theorem dX6_reads_29 : decode cX6_reads 29 = .ok (.invokevirtual 157, 3) := by decide +kernel
theorem dX6_reads_32 : decode cX6_reads 32 = .ok (.goto 5, 3) := by decide +kernel
theorem dX6_reads_35 : decode cX6_reads 35 = .ok (.ldc 69, 2) := by decide +kernel
theorem dX6_reads_37 : decode cX6_reads 37 = .ok (.ireturn, 1) := by decide +kernel
set_option maxRecDepth 20000 in
theorem ggX6_clash_X6_isEither : GoodIn wsX6_clash wsX6_isEither := goodIn_r _ [8] (by decide +kernel) (by decide +kernel)
set_option maxRecDepth 20000 in
theorem gX6_clash_X6_isEither : GoodIn wsX6_clash (va_wsS RX6 136 yX6_isEither wsX6_isEither) := goodIn_app (goodIn_of _ (by decide +kernel)) ggX6_clash_X6_isEither
set_option maxRecDepth 20000 in
theorem ggX6_clash_X4_howManyPairs : GoodIn wsX6_clash wsX4_howManyPairs := goodIn_r _ [13, 14, 15, 16, 17, 12, 18, 19, 20, 21, 22, 23, 24, 25, 26, 43, 44, 45, 46, 47, 48, 49, 50, 51, 52, 53, 54, 55] (by decide +kernel) (by decide +kernel)
set_option maxRecDepth 20000 in
theorem gX6_clash_X4_howManyPairs : GoodIn wsX6_clash (wsV RX6 205 RX4 yX4_howManyPairs wsX4_howManyPairs) := goodIn_app (goodIn_of _ (by decide +kernel)) ggX6_clash_X4_howManyPairs
set_option maxRecDepth 20000 in
theorem ggX6_clash_X4_firstPair : GoodIn wsX6_clash wsX4_firstPair := goodIn_r _ [30, 14, 31, 15, 16, 17, 12, 18, 19, 20, 21, 22, 23, 24, 25, 26, 43, 44, 45, 46, 47, 48, 49, 50, 51, 52, 53, 54, 55] (by decide +kernel) (by decide +kernel)
set_option maxRecDepth 20000 in
theorem gX6_clash_X4_firstPair : GoodIn wsX6_clash (wsV RX6 208 RX4 yX4_firstPair wsX4_firstPair) := goodIn_app (goodIn_of _ (by decide +kernel)) ggX6_clash_X4_firstPair
theorem dX6_clash_0 : decode cX6_clash 0 = .ok (.aload_n 0, 1) := by decide +kernel
theorem dX6_clash_1 : decode cX6_clash 1 = .ok (.getfield 26, 3) := by decide +kernel
theorem dX6_clash_4 : decode cX6_clash 4 = .ok (.getfield 171, 3) := by decide +kernel
theorem dX6_clash_7 : decode cX6_clash 7 = .ok (.ifCond .ne 6, 3) := by decide +kernel
theorem dX6_clash_10 : decode cX6_clash 10 = .ok (.ldc 145, 2) := by decide +kernel
theorem dX6_clash_12 : decode cX6_clash 12 = .ok (.ireturn, 1) := by decide +kernel
theorem dX6_clash_13 : decode cX6_clash 13 = .ok (.iload_n 1, 1) := by decide +kernel
theorem dX6_clash_14 : decode cX6_clash 14 = .ok (.invokestatic 136, 3) := by decide +kernel
theorem dX6_clash_17 : decode cX6_clash 17 = .ok (.ifCond .ne 6, 3) := by decide +kernel
theorem dX6_clash_20 : decode cX6_clash 20 = .ok (.ldc 69, 2) := by decide +kernel
theorem dX6_clash_22 : decode cX6_clash 22 = .ok (.ireturn, 1) := by decide +kernel
theorem dX6_clash_23 : decode cX6_clash 23 = .ok (.iload_n 1, 1) := by decide +kernel
theorem dX6_clash_24 : decode cX6_clash 24 = .ok (.ifCond .ne 13, 3) := by decide +kernel
theorem dX6_clash_27 : decode cX6_clash 27 = .ok (.aload_n 0, 1) := by decide +kernel
theorem dX6_clash_28 : decode cX6_clash 28 = .ok (.getfield 26, 3) := by decide +kernel
theorem dX6_clash_31 : decode cX6_clash 31 = .ok (.invokevirtual 205, 3) := by decide +kernel
theorem dX6_clash_34 : decode cX6_clash 34 = .ok (.goto 10, 3) := by decide +kernel
theorem dX6_clash_37 : decode cX6_clash 37 = .ok (.aload_n 0, 1) := by decide +kernel
theorem dX6_clash_38 : decode cX6_clash 38 = .ok (.getfield 26, 3) := by decide +kernel
theorem dX6_clash_41 : decode cX6_clash 41 = .ok (.invokevirtual 208, 3) := by decide +kernel
theorem dX6_clash_44 : decode cX6_clash 44 = .ok (.ireturn, 1) := by decide +kernel
set_option maxRecDepth 20000 in
theorem ggX6_bags_X6_isWithin : GoodIn wsX6_bags wsX6_isWithin := goodIn_r _ [9] (by decide +kernel) (by decide +kernel)
set_option maxRecDepth 20000 in
theorem gX6_bags_X6_isWithin : GoodIn wsX6_bags (va_wsS RX6 65 yX6_isWithin wsX6_isWithin) := goodIn_app (goodIn_of _ (by decide +kernel)) ggX6_bags_X6_isWithin
set_option maxRecDepth 20000 in
theorem ggX6_bags_X6_isEither : GoodIn wsX6_bags wsX6_isEither := goodIn_r _ [12] (by decide +kernel) (by decide +kernel)
set_option maxRecDepth 20000 in
theorem gX6_bags_X6_isEither : GoodIn wsX6_bags (va_wsS RX6 136 yX6_isEither wsX6_isEither) := goodIn_app (goodIn_of _ (by decide +kernel)) ggX6_bags_X6_isEither
set_option maxRecDepth 20000 in
theorem ggX6_bags_X2_lookAt : GoodIn wsX6_bags wsX2_lookAt := goodIn_r _ [17, 18, 19, 20, 21, 22, 23, 24, 25, 26, 27, 28, 29, 30, 31, 32, 33, 34, 35, 36, 37, 38, 39, 40, 41, 42, 43, 44, 45, 46, 47, 48, 49, 50, 51, 52, 53, 54, 55, 56, 57, 58, 59, 60, 102, 103, 104, 105, 106, 107, 108, 109, 110, 111, 112, 113, 114, 115, 116, 117, 118, 119, 120, 121] (by decide +kernel) (by decide +kernel)
set_option maxRecDepth 20000 in
theorem gX6_bags_X2_lookAt : GoodIn wsX6_bags (wsV RX6 211 RX2 yX2_lookAt wsX2_lookAt) := goodIn_app (goodIn_of _ (by decide +kernel)) ggX6_bags_X2_lookAt
set_option maxRecDepth 20000 in
theorem ggX6_bags_X2_howManyReading : GoodIn wsX6_bags wsX2_howManyReading := goodIn_r _ [64, 20, 65, 66, 67, 16, 68, 25, 19, 27, 69, 70, 71, 72, 22, 24, 73, 74, 75, 76, 26, 77, 8, 78, 115, 116, 117, 118, 119, 120, 121] (by decide +kernel) (by decide +kernel)
set_option maxRecDepth 20000 in
theorem gX6_bags_X2_howManyReading : GoodIn wsX6_bags (wsV RX6 214 RX2 yX2_howManyReading wsX2_howManyReading) := goodIn_app (goodIn_of _ (by decide +kernel)) ggX6_bags_X2_howManyReading
set_option maxRecDepth 20000 in
theorem ggX6_bags_X2_fewestReading : GoodIn wsX6_bags wsX2_fewestReading := goodIn_r _ [82, 83, 20, 84, 85, 86, 87, 88, 89, 90, 65, 66, 67, 16, 68, 25, 19, 27, 69, 70, 71, 72, 22, 24, 73, 74, 75, 76, 26, 77, 8, 78, 115, 116, 117, 118, 119, 120, 121] (by decide +kernel) (by decide +kernel)
set_option maxRecDepth 20000 in
theorem gX6_bags_X2_fewestReading : GoodIn wsX6_bags (wsV RX6 217 RX2 yX2_fewestReading wsX2_fewestReading) := goodIn_app (goodIn_of _ (by decide +kernel)) ggX6_bags_X2_fewestReading
theorem dX6_bags_0 : decode cX6_bags 0 = .ok (.aload_n 0, 1) := by decide +kernel
theorem dX6_bags_1 : decode cX6_bags 1 = .ok (.getfield 26, 3) := by decide +kernel
theorem dX6_bags_4 : decode cX6_bags 4 = .ok (.getfield 171, 3) := by decide +kernel
theorem dX6_bags_7 : decode cX6_bags 7 = .ok (.ifCond .ne 6, 3) := by decide +kernel
theorem dX6_bags_10 : decode cX6_bags 10 = .ok (.ldc 145, 2) := by decide +kernel
theorem dX6_bags_12 : decode cX6_bags 12 = .ok (.ireturn, 1) := by decide +kernel
theorem dX6_bags_13 : decode cX6_bags 13 = .ok (.iload_n 1, 1) := by decide +kernel
theorem dX6_bags_14 : decode cX6_bags 14 = .ok (.iconst 0, 1) := by decide +kernel
theorem dX6_bags_15 : decode cX6_bags 15 = .ok (.sipush 200, 3) := by decide +kernel
theorem dX6_bags_18 : decode cX6_bags 18 = .ok (.invokestatic 65, 3) := by decide +kernel
theorem dX6_bags_21 : decode cX6_bags 21 = .ok (.ifCond .eq 10, 3) := by decide +kernel
theorem dX6_bags_24 : decode cX6_bags 24 = .ok (.iload_n 2, 1) := by decide +kernel
theorem dX6_bags_25 : decode cX6_bags 25 = .ok (.invokestatic 136, 3) := by decide +kernel
theorem dX6_bags_28 : decode cX6_bags 28 = .ok (.ifCond .ne 6, 3) := by decide +kernel
theorem dX6_bags_31 : decode cX6_bags 31 = .ok (.ldc 69, 2) := by decide +kernel
theorem dX6_bags_33 : decode cX6_bags 33 = .ok (.ireturn, 1) := by decide +kernel
theorem dX6_bags_34 : decode cX6_bags 34 = .ok (.aload_n 0, 1) := by decide +kernel
theorem dX6_bags_35 : decode cX6_bags 35 = .ok (.getfield 50, 3) := by decide +kernel
theorem dX6_bags_38 : decode cX6_bags 38 = .ok (.aload_n 0, 1) := by decide +kernel
theorem dX6_bags_39 : decode cX6_bags 39 = .ok (.getfield 26, 3) := by decide +kernel
theorem dX6_bags_42 : decode cX6_bags 42 = .ok (.invokevirtual 211, 3) := by decide +kernel
theorem dX6_bags_45 : decode cX6_bags 45 = .ok (.iload_n 2, 1) := by decide +kernel
theorem dX6_bags_46 : decode cX6_bags 46 = .ok (.ifCond .ne 14, 3) := by decide +kernel
theorem dX6_bags_49 : decode cX6_bags 49 = .ok (.aload_n 0, 1) := by decide +kernel
theorem dX6_bags_50 : decode cX6_bags 50 = .ok (.getfield 50, 3) := by decide +kernel
theorem dX6_bags_53 : decode cX6_bags 53 = .ok (.iload_n 1, 1) := by decide +kernel
theorem dX6_bags_54 : decode cX6_bags 54 = .ok (.invokevirtual 214, 3) := by decide +kernel
theorem dX6_bags_57 : decode cX6_bags 57 = .ok (.goto 11, 3) := by decide +kernel
theorem dX6_bags_60 : decode cX6_bags 60 = .ok (.aload_n 0, 1) := by decide +kernel
theorem dX6_bags_61 : decode cX6_bags 61 = .ok (.getfield 50, 3) := by decide +kernel
theorem dX6_bags_64 : decode cX6_bags 64 = .ok (.iload_n 1, 1) := by decide +kernel
theorem dX6_bags_65 : decode cX6_bags 65 = .ok (.invokevirtual 217, 3) := by decide +kernel
theorem dX6_bags_68 : decode cX6_bags 68 = .ok (.ireturn, 1) := by decide +kernel
set_option maxRecDepth 20000 in
theorem ggX6_heaviest_X6_isWithin : GoodIn wsX6_heaviest wsX6_isWithin := goodIn_r _ [9] (by decide +kernel) (by decide +kernel)
set_option maxRecDepth 20000 in
theorem gX6_heaviest_X6_isWithin : GoodIn wsX6_heaviest (va_wsS RX6 65 yX6_isWithin wsX6_isWithin) := goodIn_app (goodIn_of _ (by decide +kernel)) ggX6_heaviest_X6_isWithin
set_option maxRecDepth 20000 in
theorem ggX6_heaviest_X6_isEither : GoodIn wsX6_heaviest wsX6_isEither := goodIn_r _ [12] (by decide +kernel) (by decide +kernel)
set_option maxRecDepth 20000 in
theorem gX6_heaviest_X6_isEither : GoodIn wsX6_heaviest (va_wsS RX6 136 yX6_isEither wsX6_isEither) := goodIn_app (goodIn_of _ (by decide +kernel)) ggX6_heaviest_X6_isEither
set_option maxRecDepth 20000 in
theorem ggX6_heaviest_X2_lookAt : GoodIn wsX6_heaviest wsX2_lookAt := goodIn_r _ [17, 18, 19, 20, 21, 22, 23, 24, 25, 26, 27, 28, 29, 30, 31, 32, 33, 34, 35, 36, 37, 38, 39, 40, 41, 42, 43, 44, 45, 46, 47, 48, 49, 50, 51, 52, 53, 54, 55, 56, 57, 58, 59, 60, 98, 99, 100, 101, 102, 103, 104, 105, 106, 107, 108, 109, 110, 111, 112, 113, 114, 115, 116, 117] (by decide +kernel) (by decide +kernel)
set_option maxRecDepth 20000 in
theorem gX6_heaviest_X2_lookAt : GoodIn wsX6_heaviest (wsV RX6 211 RX2 yX2_lookAt wsX2_lookAt) := goodIn_app (goodIn_of _ (by decide +kernel)) ggX6_heaviest_X2_lookAt
set_option maxRecDepth 20000 in
theorem ggX6_heaviest_X2_heaviestOf : GoodIn wsX6_heaviest wsX2_heaviestOf := goodIn_r _ [64, 20, 65, 66, 67, 68, 69, 70, 71, 72, 73, 74, 16, 75, 25, 19, 27, 76, 77, 78, 79, 22, 24, 80, 81, 82, 83, 26, 84, 8, 85, 111, 112, 113, 114, 115, 116, 117] (by decide +kernel) (by decide +kernel)
set_option maxRecDepth 20000 in
theorem gX6_heaviest_X2_heaviestOf : GoodIn wsX6_heaviest (wsV RX6 220 RX2 yX2_heaviestOf wsX2_heaviestOf) := goodIn_app (goodIn_of _ (by decide +kernel)) ggX6_heaviest_X2_heaviestOf
set_option maxRecDepth 20000 in
theorem ggX6_heaviest_X2_readingOf : GoodIn wsX6_heaviest wsX2_readingOf := goodIn_r _ [79, 22, 24, 80, 81, 82, 16, 83, 19, 26, 84, 8, 85, 111, 112, 113, 114, 115, 116, 117] (by decide +kernel) (by decide +kernel)
set_option maxRecDepth 20000 in
theorem gX6_heaviest_X2_readingOf : GoodIn wsX6_heaviest (wsV RX6 223 RX2 yX2_readingOf wsX2_readingOf) := goodIn_app (goodIn_of _ (by decide +kernel)) ggX6_heaviest_X2_readingOf
theorem dX6_heaviest_0 : decode cX6_heaviest 0 = .ok (.aload_n 0, 1) := by decide +kernel
theorem dX6_heaviest_1 : decode cX6_heaviest 1 = .ok (.getfield 26, 3) := by decide +kernel
theorem dX6_heaviest_4 : decode cX6_heaviest 4 = .ok (.getfield 171, 3) := by decide +kernel
theorem dX6_heaviest_7 : decode cX6_heaviest 7 = .ok (.ifCond .ne 6, 3) := by decide +kernel
theorem dX6_heaviest_10 : decode cX6_heaviest 10 = .ok (.ldc 145, 2) := by decide +kernel
theorem dX6_heaviest_12 : decode cX6_heaviest 12 = .ok (.ireturn, 1) := by decide +kernel
theorem dX6_heaviest_13 : decode cX6_heaviest 13 = .ok (.iload_n 1, 1) := by decide +kernel
theorem dX6_heaviest_14 : decode cX6_heaviest 14 = .ok (.iconst 0, 1) := by decide +kernel
theorem dX6_heaviest_15 : decode cX6_heaviest 15 = .ok (.bipush 8, 2) := by decide +kernel
theorem dX6_heaviest_17 : decode cX6_heaviest 17 = .ok (.invokestatic 65, 3) := by decide +kernel
theorem dX6_heaviest_20 : decode cX6_heaviest 20 = .ok (.ifCond .eq 10, 3) := by decide +kernel
theorem dX6_heaviest_23 : decode cX6_heaviest 23 = .ok (.iload_n 2, 1) := by decide +kernel
theorem dX6_heaviest_24 : decode cX6_heaviest 24 = .ok (.invokestatic 136, 3) := by decide +kernel
theorem dX6_heaviest_27 : decode cX6_heaviest 27 = .ok (.ifCond .ne 6, 3) := by decide +kernel
theorem dX6_heaviest_30 : decode cX6_heaviest 30 = .ok (.ldc 69, 2) := by decide +kernel
theorem dX6_heaviest_32 : decode cX6_heaviest 32 = .ok (.ireturn, 1) := by decide +kernel
theorem dX6_heaviest_33 : decode cX6_heaviest 33 = .ok (.aload_n 0, 1) := by decide +kernel
theorem dX6_heaviest_34 : decode cX6_heaviest 34 = .ok (.getfield 50, 3) := by decide +kernel
theorem dX6_heaviest_37 : decode cX6_heaviest 37 = .ok (.aload_n 0, 1) := by decide +kernel
theorem dX6_heaviest_38 : decode cX6_heaviest 38 = .ok (.getfield 26, 3) := by decide +kernel
theorem dX6_heaviest_41 : decode cX6_heaviest 41 = .ok (.invokevirtual 211, 3) := by decide +kernel
theorem dX6_heaviest_44 : decode cX6_heaviest 44 = .ok (.aload_n 0, 1) := by decide +kernel
theorem dX6_heaviest_45 : decode cX6_heaviest 45 = .ok (.getfield 50, 3) := by decide +kernel
theorem dX6_heaviest_48 : decode cX6_heaviest 48 = .ok (.iload_n 1, 1) := by decide +kernel
theorem dX6_heaviest_49 : decode cX6_heaviest 49 = .ok (.invokevirtual 220, 3) := by decide +kernel
theorem dX6_heaviest_52 : decode cX6_heaviest 52 = .ok (.istore_n 3, 1) := by decide +kernel
theorem dX6_heaviest_53 : decode cX6_heaviest 53 = .ok (.iload_n 2, 1) := by decide +kernel
theorem dX6_heaviest_54 : decode cX6_heaviest 54 = .ok (.ifCond .ne 14, 3) := by decide +kernel
theorem dX6_heaviest_57 : decode cX6_heaviest 57 = .ok (.aload_n 0, 1) := by decide +kernel
theorem dX6_heaviest_58 : decode cX6_heaviest 58 = .ok (.getfield 50, 3) := by decide +kernel
theorem dX6_heaviest_61 : decode cX6_heaviest 61 = .ok (.iload_n 3, 1) := by decide +kernel
theorem dX6_heaviest_62 : decode cX6_heaviest 62 = .ok (.invokevirtual 223, 3) := by decide +kernel
theorem dX6_heaviest_65 : decode cX6_heaviest 65 = .ok (.goto 4, 3) := by decide +kernel
theorem dX6_heaviest_68 : decode cX6_heaviest 68 = .ok (.iload_n 3, 1) := by decide +kernel
theorem dX6_heaviest_69 : decode cX6_heaviest 69 = .ok (.ireturn, 1) := by decide +kernel
set_option maxRecDepth 20000 in
theorem ggX6_worded_X6_isPromise : GoodIn wsX6_worded wsX6_isPromise := goodIn_r _ [8, 2, 9, 53, 54, 55, 56, 57, 58, 59, 60, 61, 62, 63, 64, 65, 66, 67, 68, 69, 70, 71, 72, 73, 74, 75, 76] (by decide +kernel) (by decide +kernel)
set_option maxRecDepth 20000 in
theorem gX6_worded_X6_isPromise : GoodIn wsX6_worded (wsV RX6 133 RX6 yX6_isPromise wsX6_isPromise) := goodIn_app (goodIn_of _ (by decide +kernel)) ggX6_worded_X6_isPromise
set_option maxRecDepth 20000 in
theorem ggX6_worded_X6_isWithin : GoodIn wsX6_worded wsX6_isWithin := goodIn_r _ [12] (by decide +kernel) (by decide +kernel)
set_option maxRecDepth 20000 in
theorem gX6_worded_X6_isWithin : GoodIn wsX6_worded (va_wsS RX6 65 yX6_isWithin wsX6_isWithin) := goodIn_app (goodIn_of _ (by decide +kernel)) ggX6_worded_X6_isWithin
set_option maxRecDepth 20000 in
theorem ggX6_worded_X4_isSettled : GoodIn wsX6_worded wsX4_isSettled := goodIn_r _ [17, 18, 64, 65, 66, 67, 68, 69, 70, 71, 72, 73, 74, 75, 76] (by decide +kernel) (by decide +kernel)
set_option maxRecDepth 20000 in
theorem gX6_worded_X4_isSettled : GoodIn wsX6_worded (wsV RX6 139 RX4 yX4_isSettled wsX4_isSettled) := goodIn_app (goodIn_of _ (by decide +kernel)) ggX6_worded_X4_isSettled
set_option maxRecDepth 20000 in
theorem ggX6_worded_X4_bestKindOf : GoodIn wsX6_worded wsX4_bestKindOf := goodIn_r _ [22, 23, 24, 25, 16, 26, 27, 28, 29, 30, 31, 32, 33, 34, 18, 35, 36, 14, 15, 17, 37, 38, 39, 40, 41, 42, 43, 44, 45, 46, 47, 48, 49, 50, 51, 64, 65, 66, 67, 68, 69, 70, 71, 72, 73, 74, 75, 76] (by decide +kernel) (by decide +kernel)
set_option maxRecDepth 20000 in
theorem gX6_worded_X4_bestKindOf : GoodIn wsX6_worded (wsV RX6 224 RX4 yX4_bestKindOf wsX4_bestKindOf) := goodIn_app (goodIn_of _ (by decide +kernel)) ggX6_worded_X4_bestKindOf
set_option maxRecDepth 20000 in
theorem ggX6_worded_X4_weightBy : GoodIn wsX6_worded wsX4_weightBy := goodIn_r _ [26, 27, 28, 29, 16, 30, 31, 32, 33, 34, 18, 35, 36, 14, 15, 17, 37, 38, 39, 40, 41, 42, 43, 44, 45, 46, 47, 48, 49, 50, 51, 64, 65, 66, 67, 68, 69, 70, 71, 72, 73, 74, 75, 76] (by decide +kernel) (by decide +kernel)
set_option maxRecDepth 20000 in
theorem gX6_worded_X4_weightBy : GoodIn wsX6_worded (wsV RX6 227 RX4 yX4_weightBy wsX4_weightBy) := goodIn_app (goodIn_of _ (by decide +kernel)) ggX6_worded_X4_weightBy
theorem dX6_worded_0 : decode cX6_worded 0 = .ok (.aload_n 0, 1) := by decide +kernel
theorem dX6_worded_1 : decode cX6_worded 1 = .ok (.iload_n 1, 1) := by decide +kernel
theorem dX6_worded_2 : decode cX6_worded 2 = .ok (.invokevirtual 133, 3) := by decide +kernel
theorem dX6_worded_5 : decode cX6_worded 5 = .ok (.ifCond .eq 12, 3) := by decide +kernel
theorem dX6_worded_8 : decode cX6_worded 8 = .ok (.iload_n 2, 1) := by decide +kernel
theorem dX6_worded_9 : decode cX6_worded 9 = .ok (.iconst 0, 1) := by decide +kernel
theorem dX6_worded_10 : decode cX6_worded 10 = .ok (.iconst 5, 1) := by decide +kernel
theorem dX6_worded_11 : decode cX6_worded 11 = .ok (.invokestatic 65, 3) := by decide +kernel
theorem dX6_worded_14 : decode cX6_worded 14 = .ok (.ifCond .ne 6, 3) := by decide +kernel
theorem dX6_worded_17 : decode cX6_worded 17 = .ok (.ldc 69, 2) := by decide +kernel
theorem dX6_worded_19 : decode cX6_worded 19 = .ok (.ireturn, 1) := by decide +kernel
theorem dX6_worded_20 : decode cX6_worded 20 = .ok (.aload_n 0, 1) := by decide +kernel
theorem dX6_worded_21 : decode cX6_worded 21 = .ok (.getfield 26, 3) := by decide +kernel
theorem dX6_worded_24 : decode cX6_worded 24 = .ok (.iload_n 1, 1) := by decide +kernel
theorem dX6_worded_25 : decode cX6_worded 25 = .ok (.invokevirtual 139, 3) := by decide +kernel
theorem dX6_worded_28 : decode cX6_worded 28 = .ok (.ifCond .eq 6, 3) := by decide +kernel
theorem dX6_worded_31 : decode cX6_worded 31 = .ok (.ldc 145, 2) := by decide +kernel
theorem dX6_worded_33 : decode cX6_worded 33 = .ok (.ireturn, 1) := by decide +kernel
theorem dX6_worded_34 : decode cX6_worded 34 = .ok (.iload_n 2, 1) := by decide +kernel
theorem dX6_worded_35 : decode cX6_worded 35 = .ok (.ifCond .ne 14, 3) := by decide +kernel
theorem dX6_worded_38 : decode cX6_worded 38 = .ok (.aload_n 0, 1) := by decide +kernel
theorem dX6_worded_39 : decode cX6_worded 39 = .ok (.getfield 26, 3) := by decide +kernel
theorem dX6_worded_42 : decode cX6_worded 42 = .ok (.iload_n 1, 1) := by decide +kernel
theorem dX6_worded_43 : decode cX6_worded 43 = .ok (.invokevirtual 224, 3) := by decide +kernel
theorem dX6_worded_46 : decode cX6_worded 46 = .ok (.goto 12, 3) := by decide +kernel
theorem dX6_worded_49 : decode cX6_worded 49 = .ok (.aload_n 0, 1) := by decide +kernel
theorem dX6_worded_50 : decode cX6_worded 50 = .ok (.getfield 26, 3) := by decide +kernel
theorem dX6_worded_53 : decode cX6_worded 53 = .ok (.iload_n 1, 1) := by decide +kernel
theorem dX6_worded_54 : decode cX6_worded 54 = .ok (.iload_n 2, 1) := by decide +kernel
theorem dX6_worded_55 : decode cX6_worded 55 = .ok (.invokevirtual 227, 3) := by decide +kernel
theorem dX6_worded_58 : decode cX6_worded 58 = .ok (.ireturn, 1) := by decide +kernel
set_option maxRecDepth 20000 in
theorem ggX6_price_X6_isPromise : GoodIn wsX6_price wsX6_isPromise := goodIn_r _ [7, 2, 8, 42, 43, 44, 45, 46, 47, 48, 49, 50, 51, 52, 53, 54, 55, 56, 57, 58, 59, 60, 61, 62, 63, 64, 65] (by decide +kernel) (by decide +kernel)
set_option maxRecDepth 20000 in
theorem gX6_price_X6_isPromise : GoodIn wsX6_price (wsV RX6 133 RX6 yX6_isPromise wsX6_isPromise) := goodIn_app (goodIn_of _ (by decide +kernel)) ggX6_price_X6_isPromise
set_option maxRecDepth 20000 in
theorem ggX6_price_X6_isWithin : GoodIn wsX6_price wsX6_isWithin := goodIn_r _ [11] (by decide +kernel) (by decide +kernel)
set_option maxRecDepth 20000 in
theorem gX6_price_X6_isWithin : GoodIn wsX6_price (va_wsS RX6 65 yX6_isWithin wsX6_isWithin) := goodIn_app (goodIn_of _ (by decide +kernel)) ggX6_price_X6_isWithin
set_option maxRecDepth 20000 in
theorem ggX6_price_X4_weightOf : GoodIn wsX6_price wsX4_weightOf := goodIn_r _ [16, 17, 18, 19, 15, 20, 21, 22, 23, 24, 25, 26, 27, 28, 29, 30, 31, 32, 33, 34, 35, 36, 37, 38, 39, 40, 41, 53, 54, 55, 56, 57, 58, 59, 60, 61, 62, 63, 64, 65] (by decide +kernel) (by decide +kernel)
set_option maxRecDepth 20000 in
theorem gX6_price_X4_weightOf : GoodIn wsX6_price (wsV RX6 193 RX4 yX4_weightOf wsX4_weightOf) := goodIn_app (goodIn_of _ (by decide +kernel)) ggX6_price_X4_weightOf
theorem dX6_price_0 : decode cX6_price 0 = .ok (.aload_n 0, 1) := by decide +kernel
theorem dX6_price_1 : decode cX6_price 1 = .ok (.iload_n 1, 1) := by decide +kernel
theorem dX6_price_2 : decode cX6_price 2 = .ok (.invokevirtual 133, 3) := by decide +kernel
theorem dX6_price_5 : decode cX6_price 5 = .ok (.ifCond .eq 14, 3) := by decide +kernel
theorem dX6_price_8 : decode cX6_price 8 = .ok (.iload_n 2, 1) := by decide +kernel
theorem dX6_price_9 : decode cX6_price 9 = .ok (.iconst 0, 1) := by decide +kernel
theorem dX6_price_10 : decode cX6_price 10 = .ok (.sipush 999, 3) := by decide +kernel
theorem dX6_price_13 : decode cX6_price 13 = .ok (.invokestatic 65, 3) := by decide +kernel
theorem dX6_price_16 : decode cX6_price 16 = .ok (.ifCond .ne 6, 3) := by decide +kernel
theorem dX6_price_19 : decode cX6_price 19 = .ok (.ldc 69, 2) := by decide +kernel
theorem dX6_price_21 : decode cX6_price 21 = .ok (.ireturn, 1) := by decide +kernel
theorem dX6_price_22 : decode cX6_price 22 = .ok (.iload_n 2, 1) := by decide +kernel
theorem dX6_price_23 : decode cX6_price 23 = .ok (.aload_n 0, 1) := by decide +kernel
theorem dX6_price_24 : decode cX6_price 24 = .ok (.getfield 26, 3) := by decide +kernel
theorem dX6_price_27 : decode cX6_price 27 = .ok (.iload_n 1, 1) := by decide +kernel
theorem dX6_price_28 : decode cX6_price 28 = .ok (.invokevirtual 193, 3) := by decide +kernel
theorem dX6_price_31 : decode cX6_price 31 = .ok (.imul, 1) := by decide +kernel
theorem dX6_price_32 : decode cX6_price 32 = .ok (.bipush 20, 2) := by decide +kernel
theorem dX6_price_34 : decode cX6_price 34 = .ok (.idiv, 1) := by decide +kernel
theorem dX6_price_35 : decode cX6_price 35 = .ok (.ireturn, 1) := by decide +kernel
set_option maxRecDepth 20000 in
theorem ggX6_prices_X6_isGiver : GoodIn wsX6_prices wsX6_isGiver := goodIn_r _ [9, 2, 10, 45, 46, 47, 48, 49, 50, 51, 52, 53, 54, 55, 56, 57, 58, 59, 60, 61, 62, 63, 64, 65, 66, 67, 68] (by decide +kernel) (by decide +kernel)
set_option maxRecDepth 20000 in
theorem gX6_prices_X6_isGiver : GoodIn wsX6_prices (wsV RX6 199 RX6 yX6_isGiver wsX6_isGiver) := goodIn_app (goodIn_of _ (by decide +kernel)) ggX6_prices_X6_isGiver
set_option maxRecDepth 20000 in
theorem ggX6_prices_X6_isWithin : GoodIn wsX6_prices wsX6_isWithin := goodIn_r _ [13] (by decide +kernel) (by decide +kernel)
set_option maxRecDepth 20000 in
theorem gX6_prices_X6_isWithin : GoodIn wsX6_prices (va_wsS RX6 65 yX6_isWithin wsX6_isWithin) := goodIn_app (goodIn_of _ (by decide +kernel)) ggX6_prices_X6_isWithin
set_option maxRecDepth 20000 in
theorem ggX6_prices_X4_isSettled : GoodIn wsX6_prices wsX4_isSettled := goodIn_r _ [18, 19, 56, 57, 58, 59, 60, 61, 62, 63, 64, 65, 66, 67, 68] (by decide +kernel) (by decide +kernel)
set_option maxRecDepth 20000 in
theorem gX6_prices_X4_isSettled : GoodIn wsX6_prices (wsV RX6 139 RX4 yX4_isSettled wsX4_isSettled) := goodIn_app (goodIn_of _ (by decide +kernel)) ggX6_prices_X4_isSettled
set_option maxRecDepth 20000 in
theorem ggX6_prices_X4_weightOf : GoodIn wsX6_prices wsX4_weightOf := goodIn_r _ [23, 24, 25, 26, 17, 27, 19, 28, 29, 15, 16, 18, 30, 31, 32, 33, 34, 35, 36, 37, 38, 39, 40, 41, 42, 43, 44, 56, 57, 58, 59, 60, 61, 62, 63, 64, 65, 66, 67, 68] (by decide +kernel) (by decide +kernel)
set_option maxRecDepth 20000 in
theorem gX6_prices_X4_weightOf : GoodIn wsX6_prices (wsV RX6 193 RX4 yX4_weightOf wsX4_weightOf) := goodIn_app (goodIn_of _ (by decide +kernel)) ggX6_prices_X4_weightOf
theorem dX6_prices_0 : decode cX6_prices 0 = .ok (.aload_n 0, 1) := by decide +kernel
theorem dX6_prices_1 : decode cX6_prices 1 = .ok (.iload_n 1, 1) := by decide +kernel
theorem dX6_prices_2 : decode cX6_prices 2 = .ok (.invokevirtual 199, 3) := by decide +kernel
theorem dX6_prices_5 : decode cX6_prices 5 = .ok (.ifCond .eq 14, 3) := by decide +kernel
theorem dX6_prices_8 : decode cX6_prices 8 = .ok (.iload_n 2, 1) := by decide +kernel
theorem dX6_prices_9 : decode cX6_prices 9 = .ok (.iconst 0, 1) := by decide +kernel
theorem dX6_prices_10 : decode cX6_prices 10 = .ok (.sipush 999, 3) := by decide +kernel
theorem dX6_prices_13 : decode cX6_prices 13 = .ok (.invokestatic 65, 3) := by decide +kernel
theorem dX6_prices_16 : decode cX6_prices 16 = .ok (.ifCond .ne 6, 3) := by decide +kernel
theorem dX6_prices_19 : decode cX6_prices 19 = .ok (.ldc 69, 2) := by decide +kernel
theorem dX6_prices_21 : decode cX6_prices 21 = .ok (.ireturn, 1) := by decide +kernel
theorem dX6_prices_22 : decode cX6_prices 22 = .ok (.iconst 0, 1) := by decide +kernel
theorem dX6_prices_23 : decode cX6_prices 23 = .ok (.istore_n 3, 1) := by decide +kernel
theorem dX6_prices_24 : decode cX6_prices 24 = .ok (.iconst 0, 1) := by decide +kernel
theorem dX6_prices_25 : decode cX6_prices 25 = .ok (.istore 4, 2) := by decide +kernel
theorem dX6_prices_27 : decode cX6_prices 27 = .ok (.iload 4, 2) := by decide +kernel
theorem dX6_prices_29 : decode cX6_prices 29 = .ok (.aload_n 0, 1) := by decide +kernel
theorem dX6_prices_30 : decode cX6_prices 30 = .ok (.getfield 26, 3) := by decide +kernel
theorem dX6_prices_33 : decode cX6_prices 33 = .ok (.getfield 130, 3) := by decide +kernel
theorem dX6_prices_36 : decode cX6_prices 36 = .ok (.if_icmp .ge 52, 3) := by decide +kernel
theorem dX6_prices_39 : decode cX6_prices 39 = .ok (.aload_n 0, 1) := by decide +kernel
theorem dX6_prices_40 : decode cX6_prices 40 = .ok (.getfield 26, 3) := by decide +kernel
theorem dX6_prices_43 : decode cX6_prices 43 = .ok (.getfield 168, 3) := by decide +kernel
theorem dX6_prices_46 : decode cX6_prices 46 = .ok (.iload 4, 2) := by decide +kernel
theorem dX6_prices_48 : decode cX6_prices 48 = .ok (.iaload, 1) := by decide +kernel
theorem dX6_prices_49 : decode cX6_prices 49 = .ok (.iload_n 1, 1) := by decide +kernel
theorem dX6_prices_50 : decode cX6_prices 50 = .ok (.if_icmp .ne 32, 3) := by decide +kernel
theorem dX6_prices_53 : decode cX6_prices 53 = .ok (.aload_n 0, 1) := by decide +kernel
theorem dX6_prices_54 : decode cX6_prices 54 = .ok (.getfield 26, 3) := by decide +kernel
theorem dX6_prices_57 : decode cX6_prices 57 = .ok (.iload 4, 2) := by decide +kernel
theorem dX6_prices_59 : decode cX6_prices 59 = .ok (.invokevirtual 139, 3) := by decide +kernel
theorem dX6_prices_62 : decode cX6_prices 62 = .ok (.ifCond .ne 20, 3) := by decide +kernel
theorem dX6_prices_65 : decode cX6_prices 65 = .ok (.iload_n 3, 1) := by decide +kernel
theorem dX6_prices_66 : decode cX6_prices 66 = .ok (.iload_n 2, 1) := by decide +kernel
theorem dX6_prices_67 : decode cX6_prices 67 = .ok (.aload_n 0, 1) := by decide +kernel
theorem dX6_prices_68 : decode cX6_prices 68 = .ok (.getfield 26, 3) := by decide +kernel
theorem dX6_prices_71 : decode cX6_prices 71 = .ok (.iload 4, 2) := by decide +kernel
theorem dX6_prices_73 : decode cX6_prices 73 = .ok (.invokevirtual 193, 3) := by decide +kernel
theorem dX6_prices_76 : decode cX6_prices 76 = .ok (.imul, 1) := by decide +kernel
theorem dX6_prices_77 : decode cX6_prices 77 = .ok (.bipush 20, 2) := by decide +kernel
theorem dX6_prices_79 : decode cX6_prices 79 = .ok (.idiv, 1) := by decide +kernel
theorem dX6_prices_80 : decode cX6_prices 80 = .ok (.iadd, 1) := by decide +kernel
theorem dX6_prices_81 : decode cX6_prices 81 = .ok (.istore_n 3, 1) := by decide +kernel
theorem dX6_prices_82 : decode cX6_prices 82 = .ok (.iinc 4 1, 3) := by decide +kernel
theorem dX6_prices_85 : decode cX6_prices 85 = .ok (.goto (-58), 3) := by decide +kernel
theorem dX6_prices_88 : decode cX6_prices 88 = .ok (.iload_n 3, 1) := by decide +kernel
theorem dX6_prices_89 : decode cX6_prices 89 = .ok (.ireturn, 1) := by decide +kernel
set_option maxRecDepth 20000 in
theorem ggX6_settles_X6_isGiver : GoodIn wsX6_settles wsX6_isGiver := goodIn_r _ [9, 3, 10, 74, 75, 76, 77, 78, 79, 80, 81, 82, 83, 84, 85, 86, 87, 88, 89, 90, 91, 92, 93, 94, 95, 96, 97] (by decide +kernel) (by decide +kernel)
set_option maxRecDepth 20000 in
theorem gX6_settles_X6_isGiver : GoodIn wsX6_settles (wsV RX6 199 RX6 yX6_isGiver wsX6_isGiver) := goodIn_app (goodIn_of _ (by decide +kernel)) ggX6_settles_X6_isGiver
set_option maxRecDepth 20000 in
theorem ggX6_settles_X6_isWithin : GoodIn wsX6_settles wsX6_isWithin := goodIn_r _ [13] (by decide +kernel) (by decide +kernel)
set_option maxRecDepth 20000 in
theorem gX6_settles_X6_isWithin : GoodIn wsX6_settles (va_wsS RX6 65 yX6_isWithin wsX6_isWithin) := goodIn_app (goodIn_of _ (by decide +kernel)) ggX6_settles_X6_isWithin
set_option maxRecDepth 20000 in
theorem ggX6_settles_X6_isEither : GoodIn wsX6_settles wsX6_isEither := goodIn_r _ [16] (by decide +kernel) (by decide +kernel)
set_option maxRecDepth 20000 in
theorem gX6_settles_X6_isEither : GoodIn wsX6_settles (va_wsS RX6 136 yX6_isEither wsX6_isEither) := goodIn_app (goodIn_of _ (by decide +kernel)) ggX6_settles_X6_isEither
set_option maxRecDepth 20000 in
theorem ggX6_settles_X4_become : GoodIn wsX6_settles wsX4_become := goodIn_r _ [21, 22, 23, 24, 25, 26, 27, 28, 29, 30, 31, 32, 33, 34, 85, 86, 87, 88, 89, 90, 91, 92, 93, 94, 95, 96, 97] (by decide +kernel) (by decide +kernel)
set_option maxRecDepth 20000 in
theorem gX6_settles_X4_become : GoodIn wsX6_settles (wsV RX6 123 RX4 yX4_become wsX4_become) := goodIn_app (goodIn_of _ (by decide +kernel)) ggX6_settles_X4_become
set_option maxRecDepth 20000 in
theorem ggX6_settles_X4_settleByDays : GoodIn wsX6_settles wsX4_settleByDays := goodIn_r _ [38, 26, 31, 39, 40, 41, 20, 42, 34, 43, 44, 45, 46, 47, 48, 49, 50, 33, 51, 52, 53, 54, 28, 29, 55, 56, 57, 58, 59, 60, 61, 62, 32, 63, 64, 65, 66, 27, 67, 68, 69, 85, 86, 87, 88, 89, 90, 91, 92, 93, 94, 95, 96, 97] (by decide +kernel) (by decide +kernel)
set_option maxRecDepth 20000 in
theorem gX6_settles_X4_settleByDays : GoodIn wsX6_settles (wsV RX6 231 RX4 yX4_settleByDays wsX4_settleByDays) := goodIn_app (goodIn_of _ (by decide +kernel)) ggX6_settles_X4_settleByDays
set_option maxRecDepth 20000 in
theorem ggX6_settles_X4_howManyKept : GoodIn wsX6_settles wsX4_howManyKept := goodIn_r _ [73, 26, 29, 34, 85, 86, 87, 88, 89, 90, 91, 92, 93, 94, 95, 96, 97] (by decide +kernel) (by decide +kernel)
set_option maxRecDepth 20000 in
theorem gX6_settles_X4_howManyKept : GoodIn wsX6_settles (wsV RX6 234 RX4 yX4_howManyKept wsX4_howManyKept) := goodIn_app (goodIn_of _ (by decide +kernel)) ggX6_settles_X4_howManyKept
theorem dX6_settles_0 : decode cX6_settles 0 = .ok (.aload_n 0, 1) := by decide +kernel
theorem dX6_settles_1 : decode cX6_settles 1 = .ok (.iload_n 1, 1) := by decide +kernel
theorem dX6_settles_2 : decode cX6_settles 2 = .ok (.invokevirtual 199, 3) := by decide +kernel
theorem dX6_settles_5 : decode cX6_settles 5 = .ok (.ifCond .eq 20, 3) := by decide +kernel
theorem dX6_settles_8 : decode cX6_settles 8 = .ok (.iload_n 2, 1) := by decide +kernel
theorem dX6_settles_9 : decode cX6_settles 9 = .ok (.iconst 0, 1) := by decide +kernel
theorem dX6_settles_10 : decode cX6_settles 10 = .ok (.bipush 20, 2) := by decide +kernel
theorem dX6_settles_12 : decode cX6_settles 12 = .ok (.invokestatic 65, 3) := by decide +kernel
theorem dX6_settles_15 : decode cX6_settles 15 = .ok (.ifCond .eq 10, 3) := by decide +kernel
theorem dX6_settles_18 : decode cX6_settles 18 = .ok (.iload_n 3, 1) := by decide +kernel
theorem dX6_settles_19 : decode cX6_settles 19 = .ok (.invokestatic 136, 3) := by decide +kernel
theorem dX6_settles_22 : decode cX6_settles 22 = .ok (.ifCond .ne 6, 3) := by decide +kernel
theorem dX6_settles_25 : decode cX6_settles 25 = .ok (.ldc 69, 2) := by decide +kernel
theorem dX6_settles_27 : decode cX6_settles 27 = .ok (.ireturn, 1) := by decide +kernel
theorem dX6_settles_28 : decode cX6_settles 28 = .ok (.aload_n 0, 1) := by decide +kernel
theorem dX6_settles_29 : decode cX6_settles 29 = .ok (.getfield 33, 3) := by decide +kernel
theorem dX6_settles_32 : decode cX6_settles 32 = .ok (.aload_n 0, 1) := by decide +kernel
theorem dX6_settles_33 : decode cX6_settles 33 = .ok (.getfield 26, 3) := by decide +kernel
theorem dX6_settles_36 : decode cX6_settles 36 = .ok (.invokevirtual 123, 3) := by decide +kernel
theorem dX6_settles_39 : decode cX6_settles 39 = .ok (.aload_n 0, 1) := by decide +kernel
theorem dX6_settles_40 : decode cX6_settles 40 = .ok (.getfield 33, 3) := by decide +kernel
theorem dX6_settles_43 : decode cX6_settles 43 = .ok (.iload_n 2, 1) := by decide +kernel
theorem dX6_settles_44 : decode cX6_settles 44 = .ok (.invokevirtual 231, 3) := by decide +kernel
theorem dX6_settles_47 : decode cX6_settles 47 = .ok (.iload_n 3, 1) := by decide +kernel
theorem dX6_settles_48 : decode cX6_settles 48 = .ok (.ifCond .ne 15, 3) := by decide +kernel
theorem dX6_settles_51 : decode cX6_settles 51 = .ok (.aload_n 0, 1) := by decide +kernel
theorem dX6_settles_52 : decode cX6_settles 52 = .ok (.getfield 33, 3) := by decide +kernel
theorem dX6_settles_55 : decode cX6_settles 55 = .ok (.getfield 164, 3) := by decide +kernel
theorem dX6_settles_58 : decode cX6_settles 58 = .ok (.iload_n 1, 1) := by decide +kernel
theorem dX6_settles_59 : decode cX6_settles 59 = .ok (.iaload, 1) := by decide +kernel
theorem dX6_settles_60 : decode cX6_settles 60 = .ok (.goto 11, 3) := by decide +kernel
theorem dX6_settles_63 : decode cX6_settles 63 = .ok (.aload_n 0, 1) := by decide +kernel
theorem dX6_settles_64 : decode cX6_settles 64 = .ok (.getfield 33, 3) := by decide +kernel
theorem dX6_settles_67 : decode cX6_settles 67 = .ok (.iload_n 1, 1) := by decide +kernel
theorem dX6_settles_68 : decode cX6_settles 68 = .ok (.invokevirtual 234, 3) := by decide +kernel
theorem dX6_settles_71 : decode cX6_settles 71 = .ok (.ireturn, 1) := by decide +kernel
set_option maxRecDepth 20000 in
theorem ggX6_bestHeavy_X6_isGiver : GoodIn wsX6_bestHeavy wsX6_isGiver := goodIn_r _ [9, 3, 10, 64, 65, 66, 67, 68, 69, 70, 71, 72, 73, 74, 75, 76, 77, 78, 79, 80, 81, 82, 83, 84, 85, 86, 87] (by decide +kernel) (by decide +kernel)
set_option maxRecDepth 20000 in
theorem gX6_bestHeavy_X6_isGiver : GoodIn wsX6_bestHeavy (wsV RX6 199 RX6 yX6_isGiver wsX6_isGiver) := goodIn_app (goodIn_of _ (by decide +kernel)) ggX6_bestHeavy_X6_isGiver
set_option maxRecDepth 20000 in
theorem ggX6_bestHeavy_X4_become : GoodIn wsX6_bestHeavy wsX4_become := goodIn_r _ [15, 16, 17, 18, 19, 20, 21, 22, 23, 24, 25, 26, 27, 28, 75, 76, 77, 78, 79, 80, 81, 82, 83, 84, 85, 86, 87] (by decide +kernel) (by decide +kernel)
set_option maxRecDepth 20000 in
theorem gX6_bestHeavy_X4_become : GoodIn wsX6_bestHeavy (wsV RX6 123 RX4 yX4_become wsX4_become) := goodIn_app (goodIn_of _ (by decide +kernel)) ggX6_bestHeavy_X4_become
set_option maxRecDepth 20000 in
theorem ggX6_bestHeavy_X4_settleByDays : GoodIn wsX6_bestHeavy wsX4_settleByDays := goodIn_r _ [32, 20, 25, 33, 34, 35, 14, 36, 28, 37, 38, 39, 40, 41, 42, 43, 44, 27, 45, 46, 47, 48, 22, 23, 49, 50, 51, 52, 53, 54, 55, 56, 26, 57, 58, 59, 60, 21, 61, 62, 63, 75, 76, 77, 78, 79, 80, 81, 82, 83, 84, 85, 86, 87] (by decide +kernel) (by decide +kernel)
set_option maxRecDepth 20000 in
theorem gX6_bestHeavy_X4_settleByDays : GoodIn wsX6_bestHeavy (wsV RX6 231 RX4 yX4_settleByDays wsX4_settleByDays) := goodIn_app (goodIn_of _ (by decide +kernel)) ggX6_bestHeavy_X4_settleByDays
theorem dX6_bestHeavy_0 : decode cX6_bestHeavy 0 = .ok (.aload_n 0, 1) := by decide +kernel
theorem dX6_bestHeavy_1 : decode cX6_bestHeavy 1 = .ok (.iload_n 1, 1) := by decide +kernel
theorem dX6_bestHeavy_2 : decode cX6_bestHeavy 2 = .ok (.invokevirtual 199, 3) := by decide +kernel
theorem dX6_bestHeavy_5 : decode cX6_bestHeavy 5 = .ok (.ifCond .ne 6, 3) := by decide +kernel
theorem dX6_bestHeavy_8 : decode cX6_bestHeavy 8 = .ok (.ldc 69, 2) := by decide +kernel
theorem dX6_bestHeavy_10 : decode cX6_bestHeavy 10 = .ok (.ireturn, 1) := by decide +kernel
theorem dX6_bestHeavy_11 : decode cX6_bestHeavy 11 = .ok (.iconst 0, 1) := by decide +kernel
theorem dX6_bestHeavy_12 : decode cX6_bestHeavy 12 = .ok (.istore_n 2, 1) := by decide +kernel
theorem dX6_bestHeavy_13 : decode cX6_bestHeavy 13 = .ok (.iconst (-1), 1) := by decide +kernel
theorem dX6_bestHeavy_14 : decode cX6_bestHeavy 14 = .ok (.istore_n 3, 1) := by decide +kernel
theorem dX6_bestHeavy_15 : decode cX6_bestHeavy 15 = .ok (.iconst 0, 1) := by decide +kernel
theorem dX6_bestHeavy_16 : decode cX6_bestHeavy 16 = .ok (.istore 4, 2) := by decide +kernel
theorem dX6_bestHeavy_18 : decode cX6_bestHeavy 18 = .ok (.iload 4, 2) := by decide +kernel
theorem dX6_bestHeavy_20 : decode cX6_bestHeavy 20 = .ok (.bipush 20, 2) := by decide +kernel
theorem dX6_bestHeavy_22 : decode cX6_bestHeavy 22 = .ok (.if_icmp .gt 55, 3) := by decide +kernel
theorem dX6_bestHeavy_25 : decode cX6_bestHeavy 25 = .ok (.aload_n 0, 1) := by decide +kernel
theorem dX6_bestHeavy_26 : decode cX6_bestHeavy 26 = .ok (.getfield 33, 3) := by decide +kernel
theorem dX6_bestHeavy_29 : decode cX6_bestHeavy 29 = .ok (.aload_n 0, 1) := by decide +kernel
theorem dX6_bestHeavy_30 : decode cX6_bestHeavy 30 = .ok (.getfield 26, 3) := by decide +kernel
theorem dX6_bestHeavy_33 : decode cX6_bestHeavy 33 = .ok (.invokevirtual 123, 3) := by decide +kernel
theorem dX6_bestHeavy_36 : decode cX6_bestHeavy 36 = .ok (.aload_n 0, 1) := by decide +kernel
theorem dX6_bestHeavy_37 : decode cX6_bestHeavy 37 = .ok (.getfield 33, 3) := by decide +kernel
theorem dX6_bestHeavy_40 : decode cX6_bestHeavy 40 = .ok (.iload 4, 2) := by decide +kernel
theorem dX6_bestHeavy_42 : decode cX6_bestHeavy 42 = .ok (.invokevirtual 231, 3) := by decide +kernel
theorem dX6_bestHeavy_45 : decode cX6_bestHeavy 45 = .ok (.aload_n 0, 1) := by decide +kernel
theorem dX6_bestHeavy_46 : decode cX6_bestHeavy 46 = .ok (.getfield 33, 3) := by decide +kernel
theorem dX6_bestHeavy_49 : decode cX6_bestHeavy 49 = .ok (.getfield 164, 3) := by decide +kernel
theorem dX6_bestHeavy_52 : decode cX6_bestHeavy 52 = .ok (.iload_n 1, 1) := by decide +kernel
theorem dX6_bestHeavy_53 : decode cX6_bestHeavy 53 = .ok (.iaload, 1) := by decide +kernel
theorem dX6_bestHeavy_54 : decode cX6_bestHeavy 54 = .ok (.iload_n 3, 1) := by decide +kernel
theorem dX6_bestHeavy_55 : decode cX6_bestHeavy 55 = .ok (.if_icmp .le 16, 3) := by decide +kernel
theorem dX6_bestHeavy_58 : decode cX6_bestHeavy 58 = .ok (.aload_n 0, 1) := by decide +kernel
theorem dX6_bestHeavy_59 : decode cX6_bestHeavy 59 = .ok (.getfield 33, 3) := by decide +kernel
theorem dX6_bestHeavy_62 : decode cX6_bestHeavy 62 = .ok (.getfield 164, 3) := by decide +kernel
theorem dX6_bestHeavy_65 : decode cX6_bestHeavy 65 = .ok (.iload_n 1, 1) := by decide +kernel
theorem dX6_bestHeavy_66 : decode cX6_bestHeavy 66 = .ok (.iaload, 1) := by decide +kernel
theorem dX6_bestHeavy_67 : decode cX6_bestHeavy 67 = .ok (.istore_n 3, 1) := by decide +kernel
theorem dX6_bestHeavy_68 : decode cX6_bestHeavy 68 = .ok (.iload 4, 2) := by decide +kernel
theorem dX6_bestHeavy_70 : decode cX6_bestHeavy 70 = .ok (.istore_n 2, 1) := by decide +kernel
theorem dX6_bestHeavy_71 : decode cX6_bestHeavy 71 = .ok (.iinc 4 1, 3) := by decide +kernel
theorem dX6_bestHeavy_74 : decode cX6_bestHeavy 74 = .ok (.goto (-56), 3) := by decide +kernel
theorem dX6_bestHeavy_77 : decode cX6_bestHeavy 77 = .ok (.iload_n 2, 1) := by decide +kernel
theorem dX6_bestHeavy_78 : decode cX6_bestHeavy 78 = .ok (.ireturn, 1) := by decide +kernel
set_option maxRecDepth 20000 in
theorem ggX6_found_X6_isRow : GoodIn wsX6_found wsX6_isRow := goodIn_r _ [11, 12, 13, 10, 14] (by decide +kernel) (by decide +kernel)
set_option maxRecDepth 20000 in
theorem gX6_found_X6_isRow : GoodIn wsX6_found (va_wsS RX6 61 yX6_isRow wsX6_isRow) := goodIn_app (goodIn_of _ (by decide +kernel)) ggX6_found_X6_isRow
set_option maxRecDepth 20000 in
theorem ggX6_found_X6_isWithin : GoodIn wsX6_found wsX6_isWithin := goodIn_r _ [14] (by decide +kernel) (by decide +kernel)
set_option maxRecDepth 20000 in
theorem gX6_found_X6_isWithin : GoodIn wsX6_found (va_wsS RX6 65 yX6_isWithin wsX6_isWithin) := goodIn_app (goodIn_of _ (by decide +kernel)) ggX6_found_X6_isWithin
set_option maxRecDepth 20000 in
theorem ggX6_found_X6_isEither : GoodIn wsX6_found wsX6_isEither := goodIn_r _ [17] (by decide +kernel) (by decide +kernel)
set_option maxRecDepth 20000 in
theorem gX6_found_X6_isEither : GoodIn wsX6_found (va_wsS RX6 136 yX6_isEither wsX6_isEither) := goodIn_app (goodIn_of _ (by decide +kernel)) ggX6_found_X6_isEither
set_option maxRecDepth 20000 in
theorem ggX6_found_X3_findingOfRun : GoodIn wsX6_found wsX3_findingOfRun := goodIn_r _ [22, 23, 24, 25, 26, 21, 27, 139, 140, 141] (by decide +kernel) (by decide +kernel)
set_option maxRecDepth 20000 in
theorem gX6_found_X3_findingOfRun : GoodIn wsX6_found (wsV RX6 81 RX3 yX3_findingOfRun wsX3_findingOfRun) := goodIn_app (goodIn_of _ (by decide +kernel)) ggX6_found_X3_findingOfRun
set_option maxRecDepth 20000 in
theorem ggX6_found_X6_finding : GoodIn wsX6_found wsX6_finding := goodIn_r _ [31, 32, 33, 115, 116, 117, 118, 119, 120, 121, 122, 123, 124, 125] (by decide +kernel) (by decide +kernel)
set_option maxRecDepth 20000 in
theorem gX6_found_X6_finding : GoodIn wsX6_found (wsV RX6 70 RX6 yX6_finding wsX6_finding) := goodIn_app (goodIn_of _ (by decide +kernel)) ggX6_found_X6_finding
set_option maxRecDepth 20000 in
theorem ggX6_found_X6_areSets : GoodIn wsX6_found wsX6_areSets := goodIn_r _ [37, 1, 38, 39, 40, 41, 42, 43, 115, 116, 117, 118, 119, 120, 121, 122, 123, 124, 125, 126, 127, 128, 129, 130, 131, 132, 133, 134, 135, 136, 137, 138] (by decide +kernel) (by decide +kernel)
set_option maxRecDepth 20000 in
theorem gX6_found_X6_areSets : GoodIn wsX6_found (wsV RX6 241 RX6 yX6_areSets wsX6_areSets) := goodIn_app (goodIn_of _ (by decide +kernel)) ggX6_found_X6_areSets
set_option maxRecDepth 20000 in
theorem ggX6_found_X2_lookAt : GoodIn wsX6_found wsX2_lookAt := goodIn_r _ [48, 49, 50, 51, 52, 53, 54, 55, 56, 57, 58, 59, 60, 61, 41, 62, 63, 64, 65, 66, 67, 68, 69, 70, 71, 72, 73, 74, 75, 76, 77, 78, 79, 80, 81, 82, 83, 84, 85, 86, 87, 88, 89, 90, 126, 127, 128, 129, 130, 131, 132, 133, 134, 135, 136, 137, 138, 142, 143, 144, 145, 146, 147, 148] (by decide +kernel) (by decide +kernel)
set_option maxRecDepth 20000 in
theorem gX6_found_X2_lookAt : GoodIn wsX6_found (wsV RX6 211 RX2 yX2_lookAt wsX2_lookAt) := goodIn_app (goodIn_of _ (by decide +kernel)) ggX6_found_X2_lookAt
set_option maxRecDepth 20000 in
theorem ggX6_found_X6_waxesFound : GoodIn wsX6_found wsX6_waxesFound := goodIn_r _ [94, 7, 1, 95, 96, 97, 98, 47, 99, 100, 101, 102, 103, 50, 57, 104, 10, 105, 115, 116, 117, 118, 119, 120, 121, 122, 123, 124, 125, 126, 127, 128, 129, 130, 131, 132, 133, 134, 135, 136, 137, 138, 142, 143, 144, 145, 146, 147, 148] (by decide +kernel) (by decide +kernel)
set_option maxRecDepth 20000 in
theorem gX6_found_X6_waxesFound : GoodIn wsX6_found (wsV RX6 245 RX6 yX6_waxesFound wsX6_waxesFound) := goodIn_app (goodIn_of _ (by decide +kernel)) ggX6_found_X6_waxesFound
set_option maxRecDepth 20000 in
theorem ggX6_found_X6_sticksFound : GoodIn wsX6_found wsX6_sticksFound := goodIn_r _ [109, 7, 1, 110, 96, 97, 98, 47, 99, 100, 101, 102, 103, 50, 57, 104, 10, 105, 115, 116, 117, 118, 119, 120, 121, 122, 123, 124, 125, 126, 127, 128, 129, 130, 131, 132, 133, 134, 135, 136, 137, 138, 142, 143, 144, 145, 146, 147, 148] (by decide +kernel) (by decide +kernel)
set_option maxRecDepth 20000 in
theorem gX6_found_X6_sticksFound : GoodIn wsX6_found (wsV RX6 249 RX6 yX6_sticksFound wsX6_sticksFound) := goodIn_app (goodIn_of _ (by decide +kernel)) ggX6_found_X6_sticksFound
set_option maxRecDepth 20000 in
theorem ggX6_found_X6_answered : GoodIn wsX6_found wsX6_answered := goodIn_r _ [114, 32, 115, 116, 117, 118, 119, 120, 121, 122, 123, 124, 125] (by decide +kernel) (by decide +kernel)
set_option maxRecDepth 20000 in
theorem gX6_found_X6_answered : GoodIn wsX6_found (wsV RX6 78 RX6 yX6_answered wsX6_answered) := goodIn_app (goodIn_of _ (by decide +kernel)) ggX6_found_X6_answered
theorem dX6_found_0 : decode cX6_found 0 = .ok (.aload_n 0, 1) := by decide +kernel
theorem dX6_found_1 : decode cX6_found 1 = .ok (.getfield 26, 3) := by decide +kernel
theorem dX6_found_4 : decode cX6_found 4 = .ok (.getfield 171, 3) := by decide +kernel
theorem dX6_found_7 : decode cX6_found 7 = .ok (.ifCond .ne 6, 3) := by decide +kernel
theorem dX6_found_10 : decode cX6_found 10 = .ok (.ldc 145, 2) := by decide +kernel
theorem dX6_found_12 : decode cX6_found 12 = .ok (.ireturn, 1) := by decide +kernel
theorem dX6_found_13 : decode cX6_found 13 = .ok (.iload_n 1, 1) := by decide +kernel
theorem dX6_found_14 : decode cX6_found 14 = .ok (.invokestatic 61, 3) := by decide +kernel
theorem dX6_found_17 : decode cX6_found 17 = .ok (.ifCond .eq 21, 3) := by decide +kernel
theorem dX6_found_20 : decode cX6_found 20 = .ok (.iload_n 3, 1) := by decide +kernel
theorem dX6_found_21 : decode cX6_found 21 = .ok (.iconst 1, 1) := by decide +kernel
theorem dX6_found_22 : decode cX6_found 22 = .ok (.bipush 8, 2) := by decide +kernel
theorem dX6_found_24 : decode cX6_found 24 = .ok (.invokestatic 65, 3) := by decide +kernel
theorem dX6_found_27 : decode cX6_found 27 = .ok (.ifCond .eq 11, 3) := by decide +kernel
theorem dX6_found_30 : decode cX6_found 30 = .ok (.iload 4, 2) := by decide +kernel
theorem dX6_found_32 : decode cX6_found 32 = .ok (.invokestatic 136, 3) := by decide +kernel
theorem dX6_found_35 : decode cX6_found 35 = .ok (.ifCond .ne 6, 3) := by decide +kernel
theorem dX6_found_38 : decode cX6_found 38 = .ok (.ldc 69, 2) := by decide +kernel
theorem dX6_found_40 : decode cX6_found 40 = .ok (.ireturn, 1) := by decide +kernel
theorem dX6_found_41 : decode cX6_found 41 = .ok (.aload_n 0, 1) := by decide +kernel
theorem dX6_found_42 : decode cX6_found 42 = .ok (.getfield 10, 3) := by decide +kernel
theorem dX6_found_45 : decode cX6_found 45 = .ok (.iload_n 1, 1) := by decide +kernel
theorem dX6_found_46 : decode cX6_found 46 = .ok (.iload_n 2, 1) := by decide +kernel
theorem dX6_found_47 : decode cX6_found 47 = .ok (.iconst 2, 1) := by decide +kernel
theorem dX6_found_48 : decode cX6_found 48 = .ok (.iload_n 3, 1) := by decide +kernel
theorem dX6_found_49 : decode cX6_found 49 = .ok (.imul, 1) := by decide +kernel
theorem dX6_found_50 : decode cX6_found 50 = .ok (.invokevirtual 81, 3) := by decide +kernel
theorem dX6_found_53 : decode cX6_found 53 = .ok (.istore 5, 2) := by decide +kernel
theorem dX6_found_55 : decode cX6_found 55 = .ok (.iload 5, 2) := by decide +kernel
theorem dX6_found_57 : decode cX6_found 57 = .ok (.ifCond .eq 10, 3) := by decide +kernel
theorem dX6_found_60 : decode cX6_found 60 = .ok (.aload_n 0, 1) := by decide +kernel
theorem dX6_found_61 : decode cX6_found 61 = .ok (.iload 5, 2) := by decide +kernel
theorem dX6_found_63 : decode cX6_found 63 = .ok (.invokevirtual 70, 3) := by decide +kernel
theorem dX6_found_66 : decode cX6_found 66 = .ok (.ireturn, 1) := by decide +kernel
theorem dX6_found_67 : decode cX6_found 67 = .ok (.aload_n 0, 1) := by decide +kernel
theorem dX6_found_68 : decode cX6_found 68 = .ok (.aload_n 0, 1) := by decide +kernel
theorem dX6_found_69 : decode cX6_found 69 = .ok (.getfield 10, 3) := by decide +kernel
theorem dX6_found_72 : decode cX6_found 72 = .ok (.getfield 237, 3) := by decide +kernel
theorem dX6_found_75 : decode cX6_found 75 = .ok (.iload_n 1, 1) := by decide +kernel
theorem dX6_found_76 : decode cX6_found 76 = .ok (.aaload, 1) := by decide +kernel
theorem dX6_found_77 : decode cX6_found 77 = .ok (.iload_n 2, 1) := by decide +kernel
theorem dX6_found_78 : decode cX6_found 78 = .ok (.iload_n 3, 1) := by decide +kernel
theorem dX6_found_79 : decode cX6_found 79 = .ok (.invokevirtual 241, 3) := by decide +kernel
theorem dX6_found_82 : decode cX6_found 82 = .ok (.ifCond .ne 6, 3) := by decide +kernel
theorem dX6_found_85 : decode cX6_found 85 = .ok (.ldc 69, 2) := by decide +kernel
theorem dX6_found_87 : decode cX6_found 87 = .ok (.ireturn, 1) := by decide +kernel
theorem dX6_found_88 : decode cX6_found 88 = .ok (.aload_n 0, 1) := by decide +kernel
theorem dX6_found_89 : decode cX6_found 89 = .ok (.getfield 50, 3) := by decide +kernel
theorem dX6_found_92 : decode cX6_found 92 = .ok (.aload_n 0, 1) := by decide +kernel
theorem dX6_found_93 : decode cX6_found 93 = .ok (.getfield 26, 3) := by decide +kernel
theorem dX6_found_96 : decode cX6_found 96 = .ok (.invokevirtual 211, 3) := by decide +kernel
theorem dX6_found_99 : decode cX6_found 99 = .ok (.aload_n 0, 1) := by decide +kernel
theorem dX6_found_100 : decode cX6_found 100 = .ok (.iload 4, 2) := by decide +kernel
theorem dX6_found_102 : decode cX6_found 102 = .ok (.ifCond .ne 21, 3) := by decide +kernel
theorem dX6_found_105 : decode cX6_found 105 = .ok (.aload_n 0, 1) := by decide +kernel
theorem dX6_found_106 : decode cX6_found 106 = .ok (.aload_n 0, 1) := by decide +kernel
theorem dX6_found_107 : decode cX6_found 107 = .ok (.getfield 10, 3) := by decide +kernel
theorem dX6_found_110 : decode cX6_found 110 = .ok (.getfield 237, 3) := by decide +kernel
theorem dX6_found_113 : decode cX6_found 113 = .ok (.iload_n 1, 1) := by decide +kernel
theorem dX6_found_114 : decode cX6_found 114 = .ok (.aaload, 1) := by decide +kernel
theorem dX6_found_115 : decode cX6_found 115 = .ok (.iload_n 2, 1) := by decide +kernel
theorem dX6_found_116 : decode cX6_found 116 = .ok (.iload_n 3, 1) := by decide +kernel
theorem dX6_found_117 : decode cX6_found 117 = .ok (.invokevirtual 245, 3) := by decide +kernel
theorem dX6_found_120 : decode cX6_found 120 = .ok (.goto 18, 3) := by decide +kernel
theorem dX6_found_123 : decode cX6_found 123 = .ok (.aload_n 0, 1) := by decide +kernel
theorem dX6_found_124 : decode cX6_found 124 = .ok (.aload_n 0, 1) := by decide +kernel
theorem dX6_found_125 : decode cX6_found 125 = .ok (.getfield 10, 3) := by decide +kernel
theorem dX6_found_128 : decode cX6_found 128 = .ok (.getfield 237, 3) := by decide +kernel
theorem dX6_found_131 : decode cX6_found 131 = .ok (.iload_n 1, 1) := by decide +kernel
theorem dX6_found_132 : decode cX6_found 132 = .ok (.aaload, 1) := by decide +kernel
theorem dX6_found_133 : decode cX6_found 133 = .ok (.iload_n 2, 1) := by decide +kernel
theorem dX6_found_134 : decode cX6_found 134 = .ok (.iload_n 3, 1) := by decide +kernel
theorem dX6_found_135 : decode cX6_found 135 = .ok (.invokevirtual 249, 3) := by decide +kernel
theorem dX6_found_138 : decode cX6_found 138 = .ok (.invokevirtual 78, 3) := by decide +kernel
theorem dX6_found_141 : decode cX6_found 141 = .ok (.ireturn, 1) := by decide +kernel
set_option maxRecDepth 20000 in
theorem ggX6_keepsFound_X6_isGiver : GoodIn wsX6_keepsFound wsX6_isGiver := goodIn_r _ [9, 3, 10, 63, 64, 65, 66, 67, 68, 69, 70, 71, 72, 73, 77, 78, 79, 80, 81, 82, 83, 84, 85, 86, 87, 88, 89] (by decide +kernel) (by decide +kernel)
set_option maxRecDepth 20000 in
theorem gX6_keepsFound_X6_isGiver : GoodIn wsX6_keepsFound (wsV RX6 199 RX6 yX6_isGiver wsX6_isGiver) := goodIn_app (goodIn_of _ (by decide +kernel)) ggX6_keepsFound_X6_isGiver
set_option maxRecDepth 20000 in
theorem ggX6_keepsFound_X6_isRow : GoodIn wsX6_keepsFound wsX6_isRow := goodIn_r _ [13, 14, 15, 8, 16] (by decide +kernel) (by decide +kernel)
set_option maxRecDepth 20000 in
theorem gX6_keepsFound_X6_isRow : GoodIn wsX6_keepsFound (va_wsS RX6 61 yX6_isRow wsX6_isRow) := goodIn_app (goodIn_of _ (by decide +kernel)) ggX6_keepsFound_X6_isRow
set_option maxRecDepth 20000 in
theorem ggX6_keepsFound_X4_howManyPlain : GoodIn wsX6_keepsFound wsX4_howManyPlain := goodIn_r _ [21, 22, 23, 24, 25, 20, 26, 27, 28, 29, 30, 31, 32, 33, 77, 78, 79, 80, 81, 82, 83, 84, 85, 86, 87, 88, 89] (by decide +kernel) (by decide +kernel)
set_option maxRecDepth 20000 in
theorem gX6_keepsFound_X4_howManyPlain : GoodIn wsX6_keepsFound (wsV RX6 252 RX4 yX4_howManyPlain wsX4_howManyPlain) := goodIn_app (goodIn_of _ (by decide +kernel)) ggX6_keepsFound_X4_howManyPlain
set_option maxRecDepth 20000 in
theorem ggX6_keepsFound_X3_findingOfRun : GoodIn wsX6_keepsFound wsX3_findingOfRun := goodIn_r _ [38, 39, 40, 41, 42, 37, 43, 74, 75, 76] (by decide +kernel) (by decide +kernel)
set_option maxRecDepth 20000 in
theorem gX6_keepsFound_X3_findingOfRun : GoodIn wsX6_keepsFound (wsV RX6 81 RX3 yX3_findingOfRun wsX3_findingOfRun) := goodIn_app (goodIn_of _ (by decide +kernel)) ggX6_keepsFound_X3_findingOfRun
set_option maxRecDepth 20000 in
theorem ggX6_keepsFound_X6_finding : GoodIn wsX6_keepsFound wsX6_finding := goodIn_r _ [47, 48, 49, 63, 64, 65, 66, 67, 68, 69, 70, 71, 72, 73] (by decide +kernel) (by decide +kernel)
set_option maxRecDepth 20000 in
theorem gX6_keepsFound_X6_finding : GoodIn wsX6_keepsFound (wsV RX6 70 RX6 yX6_finding wsX6_finding) := goodIn_app (goodIn_of _ (by decide +kernel)) ggX6_keepsFound_X6_finding
set_option maxRecDepth 20000 in
theorem ggX6_keepsFound_X4_plainWeigh : GoodIn wsX6_keepsFound wsX4_plainWeigh := goodIn_r _ [53, 22, 23, 24, 25, 20, 26, 27, 28, 29, 30, 31, 32, 33, 54, 55, 56, 57, 58, 77, 78, 79, 80, 81, 82, 83, 84, 85, 86, 87, 88, 89] (by decide +kernel) (by decide +kernel)
set_option maxRecDepth 20000 in
theorem gX6_keepsFound_X4_plainWeigh : GoodIn wsX6_keepsFound (wsV RX6 255 RX4 yX4_plainWeigh wsX4_plainWeigh) := goodIn_app (goodIn_of _ (by decide +kernel)) ggX6_keepsFound_X4_plainWeigh
set_option maxRecDepth 20000 in
theorem ggX6_keepsFound_X6_answered : GoodIn wsX6_keepsFound wsX6_answered := goodIn_r _ [62, 48, 63, 64, 65, 66, 67, 68, 69, 70, 71, 72, 73] (by decide +kernel) (by decide +kernel)
set_option maxRecDepth 20000 in
theorem gX6_keepsFound_X6_answered : GoodIn wsX6_keepsFound (wsV RX6 78 RX6 yX6_answered wsX6_answered) := goodIn_app (goodIn_of _ (by decide +kernel)) ggX6_keepsFound_X6_answered
theorem dX6_keepsFound_0 : decode cX6_keepsFound 0 = .ok (.aload_n 0, 1) := by decide +kernel
theorem dX6_keepsFound_1 : decode cX6_keepsFound 1 = .ok (.iload_n 1, 1) := by decide +kernel
theorem dX6_keepsFound_2 : decode cX6_keepsFound 2 = .ok (.invokevirtual 199, 3) := by decide +kernel
theorem dX6_keepsFound_5 : decode cX6_keepsFound 5 = .ok (.ifCond .eq 10, 3) := by decide +kernel
theorem dX6_keepsFound_8 : decode cX6_keepsFound 8 = .ok (.iload_n 2, 1) := by decide +kernel
theorem dX6_keepsFound_9 : decode cX6_keepsFound 9 = .ok (.invokestatic 61, 3) := by decide +kernel
theorem dX6_keepsFound_12 : decode cX6_keepsFound 12 = .ok (.ifCond .ne 6, 3) := by decide +kernel
theorem dX6_keepsFound_15 : decode cX6_keepsFound 15 = .ok (.ldc 69, 2) := by decide +kernel
theorem dX6_keepsFound_17 : decode cX6_keepsFound 17 = .ok (.ireturn, 1) := by decide +kernel
theorem dX6_keepsFound_18 : decode cX6_keepsFound 18 = .ok (.aload_n 0, 1) := by decide +kernel
theorem dX6_keepsFound_19 : decode cX6_keepsFound 19 = .ok (.getfield 10, 3) := by decide +kernel
theorem dX6_keepsFound_22 : decode cX6_keepsFound 22 = .ok (.iload_n 2, 1) := by decide +kernel
theorem dX6_keepsFound_23 : decode cX6_keepsFound 23 = .ok (.iload_n 3, 1) := by decide +kernel
theorem dX6_keepsFound_24 : decode cX6_keepsFound 24 = .ok (.aload_n 0, 1) := by decide +kernel
theorem dX6_keepsFound_25 : decode cX6_keepsFound 25 = .ok (.getfield 26, 3) := by decide +kernel
theorem dX6_keepsFound_28 : decode cX6_keepsFound 28 = .ok (.iload_n 1, 1) := by decide +kernel
theorem dX6_keepsFound_29 : decode cX6_keepsFound 29 = .ok (.invokevirtual 252, 3) := by decide +kernel
theorem dX6_keepsFound_32 : decode cX6_keepsFound 32 = .ok (.invokevirtual 81, 3) := by decide +kernel
theorem dX6_keepsFound_35 : decode cX6_keepsFound 35 = .ok (.istore 4, 2) := by decide +kernel
theorem dX6_keepsFound_37 : decode cX6_keepsFound 37 = .ok (.iload 4, 2) := by decide +kernel
theorem dX6_keepsFound_39 : decode cX6_keepsFound 39 = .ok (.ifCond .eq 10, 3) := by decide +kernel
theorem dX6_keepsFound_42 : decode cX6_keepsFound 42 = .ok (.aload_n 0, 1) := by decide +kernel
theorem dX6_keepsFound_43 : decode cX6_keepsFound 43 = .ok (.iload 4, 2) := by decide +kernel
theorem dX6_keepsFound_45 : decode cX6_keepsFound 45 = .ok (.invokevirtual 70, 3) := by decide +kernel
theorem dX6_keepsFound_48 : decode cX6_keepsFound 48 = .ok (.ireturn, 1) := by decide +kernel
theorem dX6_keepsFound_49 : decode cX6_keepsFound 49 = .ok (.iconst 0, 1) := by decide +kernel
theorem dX6_keepsFound_50 : decode cX6_keepsFound 50 = .ok (.istore 5, 2) := by decide +kernel
theorem dX6_keepsFound_52 : decode cX6_keepsFound 52 = .ok (.iconst 0, 1) := by decide +kernel
theorem dX6_keepsFound_53 : decode cX6_keepsFound 53 = .ok (.istore 6, 2) := by decide +kernel
theorem dX6_keepsFound_55 : decode cX6_keepsFound 55 = .ok (.iload 6, 2) := by decide +kernel
theorem dX6_keepsFound_57 : decode cX6_keepsFound 57 = .ok (.bipush 10, 2) := by decide +kernel
theorem dX6_keepsFound_59 : decode cX6_keepsFound 59 = .ok (.if_icmp .gt 41, 3) := by decide +kernel
theorem dX6_keepsFound_62 : decode cX6_keepsFound 62 = .ok (.aload_n 0, 1) := by decide +kernel
theorem dX6_keepsFound_63 : decode cX6_keepsFound 63 = .ok (.getfield 26, 3) := by decide +kernel
theorem dX6_keepsFound_66 : decode cX6_keepsFound 66 = .ok (.iload_n 1, 1) := by decide +kernel
theorem dX6_keepsFound_67 : decode cX6_keepsFound 67 = .ok (.iload 6, 2) := by decide +kernel
theorem dX6_keepsFound_69 : decode cX6_keepsFound 69 = .ok (.aload_n 0, 1) := by decide +kernel
theorem dX6_keepsFound_70 : decode cX6_keepsFound 70 = .ok (.getfield 10, 3) := by decide +kernel
theorem dX6_keepsFound_73 : decode cX6_keepsFound 73 = .ok (.getfield 237, 3) := by decide +kernel
theorem dX6_keepsFound_76 : decode cX6_keepsFound 76 = .ok (.iload_n 2, 1) := by decide +kernel
theorem dX6_keepsFound_77 : decode cX6_keepsFound 77 = .ok (.aaload, 1) := by decide +kernel
theorem dX6_keepsFound_78 : decode cX6_keepsFound 78 = .ok (.iload_n 3, 1) := by decide +kernel
theorem dX6_keepsFound_79 : decode cX6_keepsFound 79 = .ok (.invokevirtual 255, 3) := by decide +kernel
theorem dX6_keepsFound_82 : decode cX6_keepsFound 82 = .ok (.ifCond .eq 12, 3) := by decide +kernel
theorem dX6_keepsFound_85 : decode cX6_keepsFound 85 = .ok (.iload 5, 2) := by decide +kernel
theorem dX6_keepsFound_87 : decode cX6_keepsFound 87 = .ok (.iconst 1, 1) := by decide +kernel
theorem dX6_keepsFound_88 : decode cX6_keepsFound 88 = .ok (.iload 6, 2) := by decide +kernel
theorem dX6_keepsFound_90 : decode cX6_keepsFound 90 = .ok (.ishl, 1) := by decide +kernel
theorem dX6_keepsFound_91 : decode cX6_keepsFound 91 = .ok (.ior, 1) := by decide +kernel
theorem dX6_keepsFound_92 : decode cX6_keepsFound 92 = .ok (.istore 5, 2) := by decide +kernel
theorem dX6_keepsFound_94 : decode cX6_keepsFound 94 = .ok (.iinc 6 1, 3) := by decide +kernel
theorem dX6_keepsFound_97 : decode cX6_keepsFound 97 = .ok (.goto (-42), 3) := by decide +kernel
theorem dX6_keepsFound_100 : decode cX6_keepsFound 100 = .ok (.aload_n 0, 1) := by decide +kernel
theorem dX6_keepsFound_101 : decode cX6_keepsFound 101 = .ok (.iload 5, 2) := by decide +kernel
theorem dX6_keepsFound_103 : decode cX6_keepsFound 103 = .ok (.invokevirtual 78, 3) := by decide +kernel
theorem dX6_keepsFound_106 : decode cX6_keepsFound 106 = .ok (.ireturn, 1) := by decide +kernel
set_option maxRecDepth 20000 in
theorem ggX6_free_X6_isWithin : GoodIn wsX6_free wsX6_isWithin := goodIn_r _ [5] (by decide +kernel) (by decide +kernel)
set_option maxRecDepth 20000 in
theorem gX6_free_X6_isWithin : GoodIn wsX6_free (va_wsS RX6 65 yX6_isWithin wsX6_isWithin) := goodIn_app (goodIn_of _ (by decide +kernel)) ggX6_free_X6_isWithin
set_option maxRecDepth 20000 in
theorem ggX6_free_X6_isEither : GoodIn wsX6_free wsX6_isEither := goodIn_r _ [8] (by decide +kernel) (by decide +kernel)
set_option maxRecDepth 20000 in
theorem gX6_free_X6_isEither : GoodIn wsX6_free (va_wsS RX6 136 yX6_isEither wsX6_isEither) := goodIn_app (goodIn_of _ (by decide +kernel)) ggX6_free_X6_isEither
set_option maxRecDepth 20000 in
theorem ggX6_free_X6_commonDivisor : GoodIn wsX6_free wsX6_commonDivisor := goodIn_r _ [11] (by decide +kernel) (by decide +kernel)
set_option maxRecDepth 20000 in
theorem gX6_free_X6_commonDivisor : GoodIn wsX6_free (va_wsS RX6 259 yX6_commonDivisor wsX6_commonDivisor) := goodIn_app (goodIn_of _ (by decide +kernel)) ggX6_free_X6_commonDivisor
theorem dX6_free_0 : decode cX6_free 0 = .ok (.iload_n 1, 1) := by decide +kernel
theorem dX6_free_1 : decode cX6_free 1 = .ok (.iconst 0, 1) := by decide +kernel
theorem dX6_free_2 : decode cX6_free 2 = .ok (.bipush 10, 2) := by decide +kernel
theorem dX6_free_4 : decode cX6_free 4 = .ok (.invokestatic 65, 3) := by decide +kernel
theorem dX6_free_7 : decode cX6_free 7 = .ok (.ifCond .eq 20, 3) := by decide +kernel
theorem dX6_free_10 : decode cX6_free 10 = .ok (.iload_n 2, 1) := by decide +kernel
theorem dX6_free_11 : decode cX6_free 11 = .ok (.iconst 0, 1) := by decide +kernel
theorem dX6_free_12 : decode cX6_free 12 = .ok (.bipush 8, 2) := by decide +kernel
theorem dX6_free_14 : decode cX6_free 14 = .ok (.invokestatic 65, 3) := by decide +kernel
theorem dX6_free_17 : decode cX6_free 17 = .ok (.ifCond .eq 10, 3) := by decide +kernel
theorem dX6_free_20 : decode cX6_free 20 = .ok (.iload_n 3, 1) := by decide +kernel
theorem dX6_free_21 : decode cX6_free 21 = .ok (.invokestatic 136, 3) := by decide +kernel
theorem dX6_free_24 : decode cX6_free 24 = .ok (.ifCond .ne 6, 3) := by decide +kernel
theorem dX6_free_27 : decode cX6_free 27 = .ok (.ldc 69, 2) := by decide +kernel
theorem dX6_free_29 : decode cX6_free 29 = .ok (.ireturn, 1) := by decide +kernel
theorem dX6_free_30 : decode cX6_free 30 = .ok (.iconst 1, 1) := by decide +kernel
theorem dX6_free_31 : decode cX6_free 31 = .ok (.istore 4, 2) := by decide +kernel
theorem dX6_free_33 : decode cX6_free 33 = .ok (.iconst 1, 1) := by decide +kernel
theorem dX6_free_34 : decode cX6_free 34 = .ok (.istore 5, 2) := by decide +kernel
theorem dX6_free_36 : decode cX6_free 36 = .ok (.iconst 0, 1) := by decide +kernel
theorem dX6_free_37 : decode cX6_free 37 = .ok (.istore 6, 2) := by decide +kernel
theorem dX6_free_39 : decode cX6_free 39 = .ok (.iload 6, 2) := by decide +kernel
theorem dX6_free_41 : decode cX6_free 41 = .ok (.iload_n 2, 1) := by decide +kernel
theorem dX6_free_42 : decode cX6_free 42 = .ok (.if_icmp .ge 22, 3) := by decide +kernel
theorem dX6_free_45 : decode cX6_free 45 = .ok (.iload 4, 2) := by decide +kernel
theorem dX6_free_47 : decode cX6_free 47 = .ok (.bipush 10, 2) := by decide +kernel
theorem dX6_free_49 : decode cX6_free 49 = .ok (.imul, 1) := by decide +kernel
theorem dX6_free_50 : decode cX6_free 50 = .ok (.istore 4, 2) := by decide +kernel
theorem dX6_free_52 : decode cX6_free 52 = .ok (.iload 5, 2) := by decide +kernel
theorem dX6_free_54 : decode cX6_free 54 = .ok (.iload_n 1, 1) := by decide +kernel
theorem dX6_free_55 : decode cX6_free 55 = .ok (.imul, 1) := by decide +kernel
theorem dX6_free_56 : decode cX6_free 56 = .ok (.istore 5, 2) := by decide +kernel
theorem dX6_free_58 : decode cX6_free 58 = .ok (.iinc 6 1, 3) := by decide +kernel
theorem dX6_free_61 : decode cX6_free 61 = .ok (.goto (-22), 3) := by decide +kernel
theorem dX6_free_64 : decode cX6_free 64 = .ok (.iload 4, 2) := by decide +kernel
theorem dX6_free_66 : decode cX6_free 66 = .ok (.iload 4, 2) := by decide +kernel
theorem dX6_free_68 : decode cX6_free 68 = .ok (.iload 5, 2) := by decide +kernel
theorem dX6_free_70 : decode cX6_free 70 = .ok (.isub, 1) := by decide +kernel
theorem dX6_free_71 : decode cX6_free 71 = .ok (.invokestatic 259, 3) := by decide +kernel
theorem dX6_free_74 : decode cX6_free 74 = .ok (.istore 6, 2) := by decide +kernel
theorem dX6_free_76 : decode cX6_free 76 = .ok (.iload_n 3, 1) := by decide +kernel
theorem dX6_free_77 : decode cX6_free 77 = .ok (.ifCond .ne 11, 3) := by decide +kernel
theorem dX6_free_80 : decode cX6_free 80 = .ok (.iload 4, 2) := by decide +kernel
theorem dX6_free_82 : decode cX6_free 82 = .ok (.iload 5, 2) := by decide +kernel
theorem dX6_free_84 : decode cX6_free 84 = .ok (.isub, 1) := by decide +kernel
theorem dX6_free_85 : decode cX6_free 85 = .ok (.goto 5, 3) := by decide +kernel
theorem dX6_free_88 : decode cX6_free 88 = .ok (.iload 4, 2) := by decide +kernel
theorem dX6_free_90 : decode cX6_free 90 = .ok (.istore 7, 2) := by decide +kernel
theorem dX6_free_92 : decode cX6_free 92 = .ok (.iload 6, 2) := by decide +kernel
theorem dX6_free_94 : decode cX6_free 94 = .ok (.iconst 1, 1) := by decide +kernel
theorem dX6_free_95 : decode cX6_free 95 = .ok (.if_icmp .ge 8, 3) := by decide +kernel
theorem dX6_free_98 : decode cX6_free 98 = .ok (.iload 7, 2) := by decide +kernel
theorem dX6_free_100 : decode cX6_free 100 = .ok (.goto 8, 3) := by decide +kernel
theorem dX6_free_103 : decode cX6_free 103 = .ok (.iload 7, 2) := by decide +kernel
theorem dX6_free_105 : decode cX6_free 105 = .ok (.iload 6, 2) := by decide +kernel
theorem dX6_free_107 : decode cX6_free 107 = .ok (.idiv, 1) := by decide +kernel
theorem dX6_free_108 : decode cX6_free 108 = .ok (.ireturn, 1) := by decide +kernel
set_option maxRecDepth 20000 in
theorem ggX6_image_X6_isImage : GoodIn wsX6_image wsX6_isImage := goodIn_r _ [9, 10, 11, 8, 12] (by decide +kernel) (by decide +kernel)
set_option maxRecDepth 20000 in
theorem gX6_image_X6_isImage : GoodIn wsX6_image (va_wsS RX6 262 yX6_isImage wsX6_isImage) := goodIn_app (goodIn_of _ (by decide +kernel)) ggX6_image_X6_isImage
set_option maxRecDepth 20000 in
theorem ggX6_image_X4_become : GoodIn wsX6_image wsX4_become := goodIn_r _ [17, 18, 19, 20, 21, 22, 23, 24, 25, 26, 27, 28, 29, 30, 42, 43, 44, 45, 46, 47, 48, 49, 50, 51, 52, 53, 54] (by decide +kernel) (by decide +kernel)
set_option maxRecDepth 20000 in
theorem gX6_image_X4_become : GoodIn wsX6_image (wsV RX6 123 RX4 yX4_become wsX4_become) := goodIn_app (goodIn_of _ (by decide +kernel)) ggX6_image_X4_become
theorem dX6_image_0 : decode cX6_image 0 = .ok (.iload_n 1, 1) := by decide +kernel
theorem dX6_image_1 : decode cX6_image 1 = .ok (.invokestatic 262, 3) := by decide +kernel
theorem dX6_image_4 : decode cX6_image 4 = .ok (.ifCond .ne 6, 3) := by decide +kernel
theorem dX6_image_7 : decode cX6_image 7 = .ok (.ldc 69, 2) := by decide +kernel
theorem dX6_image_9 : decode cX6_image 9 = .ok (.ireturn, 1) := by decide +kernel
theorem dX6_image_10 : decode cX6_image 10 = .ok (.aload_n 0, 1) := by decide +kernel
theorem dX6_image_11 : decode cX6_image 11 = .ok (.getfield 26, 3) := by decide +kernel
theorem dX6_image_14 : decode cX6_image 14 = .ok (.getfield 171, 3) := by decide +kernel
theorem dX6_image_17 : decode cX6_image 17 = .ok (.ifCond .ne 6, 3) := by decide +kernel
theorem dX6_image_20 : decode cX6_image 20 = .ok (.ldc 145, 2) := by decide +kernel
theorem dX6_image_22 : decode cX6_image 22 = .ok (.ireturn, 1) := by decide +kernel
theorem dX6_image_23 : decode cX6_image 23 = .ok (.aload_n 0, 1) := by decide +kernel
theorem dX6_image_24 : decode cX6_image 24 = .ok (.getfield 36, 3) := by decide +kernel
theorem dX6_image_27 : decode cX6_image 27 = .ok (.iload_n 1, 1) := by decide +kernel
theorem dX6_image_28 : decode cX6_image 28 = .ok (.aaload, 1) := by decide +kernel
theorem dX6_image_29 : decode cX6_image 29 = .ok (.aload_n 0, 1) := by decide +kernel
theorem dX6_image_30 : decode cX6_image 30 = .ok (.getfield 26, 3) := by decide +kernel
theorem dX6_image_33 : decode cX6_image 33 = .ok (.invokevirtual 123, 3) := by decide +kernel
theorem dX6_image_36 : decode cX6_image 36 = .ok (.iconst 1, 1) := by decide +kernel
theorem dX6_image_37 : decode cX6_image 37 = .ok (.ireturn, 1) := by decide +kernel
set_option maxRecDepth 20000 in
theorem ggX6_restore_X6_isImage : GoodIn wsX6_restore wsX6_isImage := goodIn_r _ [10, 11, 12, 9, 13] (by decide +kernel) (by decide +kernel)
set_option maxRecDepth 20000 in
theorem gX6_restore_X6_isImage : GoodIn wsX6_restore (va_wsS RX6 262 yX6_isImage wsX6_isImage) := goodIn_app (goodIn_of _ (by decide +kernel)) ggX6_restore_X6_isImage
set_option maxRecDepth 20000 in
theorem ggX6_restore_X4_become : GoodIn wsX6_restore wsX4_become := goodIn_r _ [18, 19, 20, 21, 22, 23, 24, 25, 26, 27, 28, 29, 30, 31, 50, 51, 52, 53, 54, 55, 56, 57, 58, 59, 60, 61, 62] (by decide +kernel) (by decide +kernel)
set_option maxRecDepth 20000 in
theorem gX6_restore_X4_become : GoodIn wsX6_restore (wsV RX6 123 RX4 yX4_become wsX4_become) := goodIn_app (goodIn_of _ (by decide +kernel)) ggX6_restore_X4_become
set_option maxRecDepth 20000 in
theorem ggX6_restore_X0_forgetAll : GoodIn wsX6_restore wsX0_forgetAll := goodIn_r _ [36, 37, 38, 63, 64, 65, 66, 67, 68] (by decide +kernel) (by decide +kernel)
set_option maxRecDepth 20000 in
theorem gX6_restore_X0_forgetAll : GoodIn wsX6_restore (wsV RX6 127 RX0 yX0_forgetAll wsX0_forgetAll) := goodIn_app (goodIn_of _ (by decide +kernel)) ggX6_restore_X0_forgetAll
theorem dX6_restore_0 : decode cX6_restore 0 = .ok (.iload_n 1, 1) := by decide +kernel
theorem dX6_restore_1 : decode cX6_restore 1 = .ok (.invokestatic 262, 3) := by decide +kernel
theorem dX6_restore_4 : decode cX6_restore 4 = .ok (.ifCond .ne 6, 3) := by decide +kernel
theorem dX6_restore_7 : decode cX6_restore 7 = .ok (.ldc 69, 2) := by decide +kernel
theorem dX6_restore_9 : decode cX6_restore 9 = .ok (.ireturn, 1) := by decide +kernel
theorem dX6_restore_10 : decode cX6_restore 10 = .ok (.aload_n 0, 1) := by decide +kernel
theorem dX6_restore_11 : decode cX6_restore 11 = .ok (.getfield 36, 3) := by decide +kernel
theorem dX6_restore_14 : decode cX6_restore 14 = .ok (.iload_n 1, 1) := by decide +kernel
theorem dX6_restore_15 : decode cX6_restore 15 = .ok (.aaload, 1) := by decide +kernel
theorem dX6_restore_16 : decode cX6_restore 16 = .ok (.getfield 171, 3) := by decide +kernel
theorem dX6_restore_19 : decode cX6_restore 19 = .ok (.ifCond .ne 6, 3) := by decide +kernel
theorem dX6_restore_22 : decode cX6_restore 22 = .ok (.ldc 145, 2) := by decide +kernel
theorem dX6_restore_24 : decode cX6_restore 24 = .ok (.ireturn, 1) := by decide +kernel
theorem dX6_restore_25 : decode cX6_restore 25 = .ok (.aload_n 0, 1) := by decide +kernel
theorem dX6_restore_26 : decode cX6_restore 26 = .ok (.getfield 26, 3) := by decide +kernel
theorem dX6_restore_29 : decode cX6_restore 29 = .ok (.aload_n 0, 1) := by decide +kernel
theorem dX6_restore_30 : decode cX6_restore 30 = .ok (.getfield 36, 3) := by decide +kernel
theorem dX6_restore_33 : decode cX6_restore 33 = .ok (.iload_n 1, 1) := by decide +kernel
theorem dX6_restore_34 : decode cX6_restore 34 = .ok (.aaload, 1) := by decide +kernel
theorem dX6_restore_35 : decode cX6_restore 35 = .ok (.invokevirtual 123, 3) := by decide +kernel
theorem dX6_restore_38 : decode cX6_restore 38 = .ok (.aload_n 0, 1) := by decide +kernel
theorem dX6_restore_39 : decode cX6_restore 39 = .ok (.getfield 43, 3) := by decide +kernel
theorem dX6_restore_42 : decode cX6_restore 42 = .ok (.invokevirtual 127, 3) := by decide +kernel
theorem dX6_restore_45 : decode cX6_restore 45 = .ok (.iconst 1, 1) := by decide +kernel
theorem dX6_restore_46 : decode cX6_restore 46 = .ok (.ireturn, 1) := by decide +kernel
set_option maxRecDepth 20000 in
theorem ggX6_kind_X6_isPromise : GoodIn wsX6_kind wsX6_isPromise := goodIn_r _ [8, 1, 9, 10, 11, 12, 13, 14, 15, 16, 17, 18, 19, 20, 21, 22, 23, 24, 25, 26, 27, 28, 29, 30, 31, 32, 33] (by decide +kernel) (by decide +kernel)
set_option maxRecDepth 20000 in
theorem gX6_kind_X6_isPromise : GoodIn wsX6_kind (wsV RX6 133 RX6 yX6_isPromise wsX6_isPromise) := goodIn_app (goodIn_of _ (by decide +kernel)) ggX6_kind_X6_isPromise
theorem dX6_kind_0 : decode cX6_kind 0 = .ok (.aload_n 0, 1) := by decide +kernel
theorem dX6_kind_1 : decode cX6_kind 1 = .ok (.iload_n 1, 1) := by decide +kernel
theorem dX6_kind_2 : decode cX6_kind 2 = .ok (.invokevirtual 133, 3) := by decide +kernel
theorem dX6_kind_5 : decode cX6_kind 5 = .ok (.ifCond .eq 15, 3) := by decide +kernel
theorem dX6_kind_8 : decode cX6_kind 8 = .ok (.aload_n 0, 1) := by decide +kernel
theorem dX6_kind_9 : decode cX6_kind 9 = .ok (.getfield 26, 3) := by decide +kernel
theorem dX6_kind_12 : decode cX6_kind 12 = .ok (.getfield 265, 3) := by decide +kernel
theorem dX6_kind_15 : decode cX6_kind 15 = .ok (.iload_n 1, 1) := by decide +kernel
theorem dX6_kind_16 : decode cX6_kind 16 = .ok (.iaload, 1) := by decide +kernel
theorem dX6_kind_17 : decode cX6_kind 17 = .ok (.goto 5, 3) := by decide +kernel
theorem dX6_kind_20 : decode cX6_kind 20 = .ok (.ldc 69, 2) := by decide +kernel
theorem dX6_kind_22 : decode cX6_kind 22 = .ok (.ireturn, 1) := by decide +kernel
set_option maxRecDepth 20000 in
theorem ggX6_as_X6_isPromise : GoodIn wsX6_as wsX6_isPromise := goodIn_r _ [8, 2, 9, 29, 30, 31, 32, 33, 34, 35, 36, 37, 38, 39, 40, 41, 42, 43, 44, 45, 46, 47, 48, 49, 50, 51, 52] (by decide +kernel) (by decide +kernel)
set_option maxRecDepth 20000 in
theorem gX6_as_X6_isPromise : GoodIn wsX6_as (wsV RX6 133 RX6 yX6_isPromise wsX6_isPromise) := goodIn_app (goodIn_of _ (by decide +kernel)) ggX6_as_X6_isPromise
set_option maxRecDepth 20000 in
theorem ggX6_as_X6_isWithin : GoodIn wsX6_as wsX6_isWithin := goodIn_r _ [12] (by decide +kernel) (by decide +kernel)
set_option maxRecDepth 20000 in
theorem gX6_as_X6_isWithin : GoodIn wsX6_as (va_wsS RX6 65 yX6_isWithin wsX6_isWithin) := goodIn_app (goodIn_of _ (by decide +kernel)) ggX6_as_X6_isWithin
set_option maxRecDepth 20000 in
theorem ggX6_as_X6_isOfKind : GoodIn wsX6_as wsX6_isOfKind := goodIn_r _ [15, 16, 17, 7, 18] (by decide +kernel) (by decide +kernel)
set_option maxRecDepth 20000 in
theorem gX6_as_X6_isOfKind : GoodIn wsX6_as (va_wsS RX6 268 yX6_isOfKind wsX6_isOfKind) := goodIn_app (goodIn_of _ (by decide +kernel)) ggX6_as_X6_isOfKind
set_option maxRecDepth 20000 in
theorem ggX6_as_X6_answered : GoodIn wsX6_as wsX6_answered := goodIn_r _ [22, 23, 29, 30, 31, 32, 33, 34, 35, 36, 37, 38, 39] (by decide +kernel) (by decide +kernel)
set_option maxRecDepth 20000 in
theorem gX6_as_X6_answered : GoodIn wsX6_as (wsV RX6 78 RX6 yX6_answered wsX6_answered) := goodIn_app (goodIn_of _ (by decide +kernel)) ggX6_as_X6_answered
set_option maxRecDepth 20000 in
theorem ggX6_as_X6_finding : GoodIn wsX6_as wsX6_finding := goodIn_r _ [27, 23, 28, 29, 30, 31, 32, 33, 34, 35, 36, 37, 38, 39] (by decide +kernel) (by decide +kernel)
set_option maxRecDepth 20000 in
theorem gX6_as_X6_finding : GoodIn wsX6_as (wsV RX6 70 RX6 yX6_finding wsX6_finding) := goodIn_app (goodIn_of _ (by decide +kernel)) ggX6_as_X6_finding
theorem dX6_as_0 : decode cX6_as 0 = .ok (.aload_n 0, 1) := by decide +kernel
theorem dX6_as_1 : decode cX6_as 1 = .ok (.iload_n 1, 1) := by decide +kernel
theorem dX6_as_2 : decode cX6_as 2 = .ok (.invokevirtual 133, 3) := by decide +kernel
theorem dX6_as_5 : decode cX6_as 5 = .ok (.ifCond .eq 12, 3) := by decide +kernel
theorem dX6_as_8 : decode cX6_as 8 = .ok (.iload_n 2, 1) := by decide +kernel
theorem dX6_as_9 : decode cX6_as 9 = .ok (.iconst 0, 1) := by decide +kernel
theorem dX6_as_10 : decode cX6_as 10 = .ok (.iconst 5, 1) := by decide +kernel
theorem dX6_as_11 : decode cX6_as 11 = .ok (.invokestatic 65, 3) := by decide +kernel
theorem dX6_as_14 : decode cX6_as 14 = .ok (.ifCond .ne 6, 3) := by decide +kernel
theorem dX6_as_17 : decode cX6_as 17 = .ok (.ldc 69, 2) := by decide +kernel
theorem dX6_as_19 : decode cX6_as 19 = .ok (.ireturn, 1) := by decide +kernel
theorem dX6_as_20 : decode cX6_as 20 = .ok (.aload_n 0, 1) := by decide +kernel
theorem dX6_as_21 : decode cX6_as 21 = .ok (.getfield 26, 3) := by decide +kernel
theorem dX6_as_24 : decode cX6_as 24 = .ok (.getfield 265, 3) := by decide +kernel
theorem dX6_as_27 : decode cX6_as 27 = .ok (.iload_n 1, 1) := by decide +kernel
theorem dX6_as_28 : decode cX6_as 28 = .ok (.iaload, 1) := by decide +kernel
theorem dX6_as_29 : decode cX6_as 29 = .ok (.iload_n 2, 1) := by decide +kernel
theorem dX6_as_30 : decode cX6_as 30 = .ok (.invokestatic 268, 3) := by decide +kernel
theorem dX6_as_33 : decode cX6_as 33 = .ok (.ifCond .eq 11, 3) := by decide +kernel
theorem dX6_as_36 : decode cX6_as 36 = .ok (.aload_n 0, 1) := by decide +kernel
theorem dX6_as_37 : decode cX6_as 37 = .ok (.iload_n 1, 1) := by decide +kernel
theorem dX6_as_38 : decode cX6_as 38 = .ok (.invokevirtual 78, 3) := by decide +kernel
theorem dX6_as_41 : decode cX6_as 41 = .ok (.goto 8, 3) := by decide +kernel
theorem dX6_as_44 : decode cX6_as 44 = .ok (.aload_n 0, 1) := by decide +kernel
theorem dX6_as_45 : decode cX6_as 45 = .ok (.iconst 3, 1) := by decide +kernel
theorem dX6_as_46 : decode cX6_as 46 = .ok (.invokevirtual 70, 3) := by decide +kernel
theorem dX6_as_49 : decode cX6_as 49 = .ok (.ireturn, 1) := by decide +kernel
set_option maxRecDepth 20000 in
theorem ggX6_ask_X6_isPromise : GoodIn wsX6_ask wsX6_isPromise := goodIn_r _ [8, 3, 9, 89, 90, 91, 92, 93, 94, 95, 96, 97, 98, 99, 100, 101, 102, 103, 104, 105, 106, 107, 108, 109, 110, 111, 112] (by decide +kernel) (by decide +kernel)
set_option maxRecDepth 20000 in
theorem gX6_ask_X6_isPromise : GoodIn wsX6_ask (wsV RX6 133 RX6 yX6_isPromise wsX6_isPromise) := goodIn_app (goodIn_of _ (by decide +kernel)) ggX6_ask_X6_isPromise
set_option maxRecDepth 20000 in
theorem ggX6_ask_X6_isEither : GoodIn wsX6_ask wsX6_isEither := goodIn_r _ [12] (by decide +kernel) (by decide +kernel)
set_option maxRecDepth 20000 in
theorem gX6_ask_X6_isEither : GoodIn wsX6_ask (va_wsS RX6 136 yX6_isEither wsX6_isEither) := goodIn_app (goodIn_of _ (by decide +kernel)) ggX6_ask_X6_isEither
set_option maxRecDepth 20000 in
theorem ggX6_ask_X1_turnTo : GoodIn wsX6_ask wsX1_turnTo := goodIn_r _ [17, 18, 19, 20, 21, 22, 23, 24, 25, 26, 27, 28, 29, 30, 31, 32, 33, 34, 35, 36, 37, 38, 39, 40, 41, 42, 43, 44, 45, 46, 47, 48, 49, 50, 51, 52, 53, 54, 113, 114, 115, 116, 117, 118, 100, 101, 102, 103, 104, 105, 106, 107, 108, 109, 110, 111, 112] (by decide +kernel) (by decide +kernel)
set_option maxRecDepth 20000 in
theorem gX6_ask_X1_turnTo : GoodIn wsX6_ask (wsV RX6 272 RX1 yX1_turnTo wsX1_turnTo) := goodIn_app (goodIn_of _ (by decide +kernel)) ggX6_ask_X1_turnTo
set_option maxRecDepth 20000 in
theorem ggX6_ask_X1_size : GoodIn wsX6_ask wsX1_size := goodIn_r _ [58, 20, 59, 7, 60, 61, 62, 63, 64, 65, 66, 16, 67, 23, 68, 69, 70, 71, 18, 72, 73, 74, 75, 76, 77, 78, 79, 80, 21, 24, 113, 114, 115, 116, 117, 118] (by decide +kernel) (by decide +kernel)
set_option maxRecDepth 20000 in
theorem gX6_ask_X1_size : GoodIn wsX6_ask (wsV RX6 275 RX1 yX1_size wsX1_size) := goodIn_app (goodIn_of _ (by decide +kernel)) ggX6_ask_X1_size
set_option maxRecDepth 20000 in
theorem ggX6_ask_X1_mark : GoodIn wsX6_ask wsX1_mark := goodIn_r _ [84, 20, 59, 7, 60, 61, 62, 63, 85, 86, 87, 16, 88, 21, 68, 69, 70, 71, 18, 72, 64, 65, 66, 67, 23, 77, 78, 79, 80, 24, 113, 114, 115, 116, 117, 118] (by decide +kernel) (by decide +kernel)
set_option maxRecDepth 20000 in
theorem gX6_ask_X1_mark : GoodIn wsX6_ask (wsV RX6 278 RX1 yX1_mark wsX1_mark) := goodIn_app (goodIn_of _ (by decide +kernel)) ggX6_ask_X1_mark
theorem dX6_ask_0 : decode cX6_ask 0 = .ok (.aload_n 0, 1) := by decide +kernel
theorem dX6_ask_1 : decode cX6_ask 1 = .ok (.iload_n 1, 1) := by decide +kernel
theorem dX6_ask_2 : decode cX6_ask 2 = .ok (.invokevirtual 133, 3) := by decide +kernel
theorem dX6_ask_5 : decode cX6_ask 5 = .ok (.ifCond .eq 10, 3) := by decide +kernel
theorem dX6_ask_8 : decode cX6_ask 8 = .ok (.iload_n 2, 1) := by decide +kernel
theorem dX6_ask_9 : decode cX6_ask 9 = .ok (.invokestatic 136, 3) := by decide +kernel
theorem dX6_ask_12 : decode cX6_ask 12 = .ok (.ifCond .ne 6, 3) := by decide +kernel
theorem dX6_ask_15 : decode cX6_ask 15 = .ok (.ldc 69, 2) := by decide +kernel
theorem dX6_ask_17 : decode cX6_ask 17 = .ok (.ireturn, 1) := by decide +kernel
theorem dX6_ask_18 : decode cX6_ask 18 = .ok (.aload_n 0, 1) := by decide +kernel
theorem dX6_ask_19 : decode cX6_ask 19 = .ok (.getfield 57, 3) := by decide +kernel
theorem dX6_ask_22 : decode cX6_ask 22 = .ok (.aload_n 0, 1) := by decide +kernel
theorem dX6_ask_23 : decode cX6_ask 23 = .ok (.getfield 26, 3) := by decide +kernel
theorem dX6_ask_26 : decode cX6_ask 26 = .ok (.iload_n 1, 1) := by decide +kernel
theorem dX6_ask_27 : decode cX6_ask 27 = .ok (.invokevirtual 272, 3) := by decide +kernel
theorem dX6_ask_30 : decode cX6_ask 30 = .ok (.iload_n 2, 1) := by decide +kernel
theorem dX6_ask_31 : decode cX6_ask 31 = .ok (.ifCond .ne 13, 3) := by decide +kernel
theorem dX6_ask_34 : decode cX6_ask 34 = .ok (.aload_n 0, 1) := by decide +kernel
theorem dX6_ask_35 : decode cX6_ask 35 = .ok (.getfield 57, 3) := by decide +kernel
theorem dX6_ask_38 : decode cX6_ask 38 = .ok (.invokevirtual 275, 3) := by decide +kernel
theorem dX6_ask_41 : decode cX6_ask 41 = .ok (.goto 10, 3) := by decide +kernel
theorem dX6_ask_44 : decode cX6_ask 44 = .ok (.aload_n 0, 1) := by decide +kernel
theorem dX6_ask_45 : decode cX6_ask 45 = .ok (.getfield 57, 3) := by decide +kernel
theorem dX6_ask_48 : decode cX6_ask 48 = .ok (.invokevirtual 278, 3) := by decide +kernel
theorem dX6_ask_51 : decode cX6_ask 51 = .ok (.ireturn, 1) := by decide +kernel
set_option maxRecDepth 20000 in
theorem ggX6_trace_X1_bodyAt : GoodIn wsX6_trace wsX1_bodyAt := goodIn_r _ [6, 7, 8, 9, 21, 22, 23, 24, 25, 26] (by decide +kernel) (by decide +kernel)
set_option maxRecDepth 20000 in
theorem gX6_trace_X1_bodyAt : GoodIn wsX6_trace (wsV RX6 281 RX1 yX1_bodyAt wsX1_bodyAt) := goodIn_app (goodIn_of _ (by decide +kernel)) ggX6_trace_X1_bodyAt
theorem dX6_trace_0 : decode cX6_trace 0 = .ok (.aload_n 0, 1) := by decide +kernel
theorem dX6_trace_1 : decode cX6_trace 1 = .ok (.getfield 57, 3) := by decide +kernel
theorem dX6_trace_4 : decode cX6_trace 4 = .ok (.iload_n 1, 1) := by decide +kernel
theorem dX6_trace_5 : decode cX6_trace 5 = .ok (.invokevirtual 281, 3) := by decide +kernel
theorem dX6_trace_8 : decode cX6_trace 8 = .ok (.ireturn, 1) := by decide +kernel
set_option maxRecDepth 20000 in
theorem ggX6_count_X3_howMany : GoodIn wsX6_count wsX3_howMany := goodIn_r _ [18, 19, 20, 21, 17, 22, 23, 94, 95, 96] (by decide +kernel) (by decide +kernel)
set_option maxRecDepth 20000 in
theorem gX6_count_X3_howMany : GoodIn wsX6_count (wsV RX6 284 RX3 yX3_howMany wsX3_howMany) := goodIn_app (goodIn_of _ (by decide +kernel)) ggX6_count_X3_howMany
set_option maxRecDepth 20000 in
theorem ggX6_count_X4_readingOf : GoodIn wsX6_count wsX4_readingOf := goodIn_r _ [28, 29, 30, 31, 32, 33, 34, 27, 35, 36, 37, 38, 39, 40, 41, 42, 43, 44, 45, 46, 47, 48, 49, 50, 51, 52, 53, 54, 55, 56, 57, 58, 59, 71, 72, 73, 74, 75, 76, 77, 78, 79, 80, 81, 82, 83] (by decide +kernel) (by decide +kernel)
set_option maxRecDepth 20000 in
theorem gX6_count_X4_readingOf : GoodIn wsX6_count (wsV RX6 157 RX4 yX4_readingOf wsX4_readingOf) := goodIn_app (goodIn_of _ (by decide +kernel)) ggX6_count_X4_readingOf
theorem dX6_count_0 : decode cX6_count 0 = .ok (.iload_n 1, 1) := by decide +kernel
theorem dX6_count_1 : decode cX6_count 1 = .ok (.tableswitch 144 0 8 #[51, 59, 67, 75, 83, 112, 120, 128, 136], 51) := by decide +kernel
theorem dX6_count_52 : decode cX6_count 52 = .ok (.aload_n 0, 1) := by decide +kernel
theorem dX6_count_53 : decode cX6_count 53 = .ok (.getfield 10, 3) := by decide +kernel
theorem dX6_count_56 : decode cX6_count 56 = .ok (.invokevirtual 284, 3) := by decide +kernel
theorem dX6_count_59 : decode cX6_count 59 = .ok (.ireturn, 1) := by decide +kernel
theorem dX6_count_60 : decode cX6_count 60 = .ok (.aload_n 0, 1) := by decide +kernel
theorem dX6_count_61 : decode cX6_count 61 = .ok (.getfield 26, 3) := by decide +kernel
theorem dX6_count_64 : decode cX6_count 64 = .ok (.getfield 130, 3) := by decide +kernel
theorem dX6_count_67 : decode cX6_count 67 = .ok (.ireturn, 1) := by decide +kernel
theorem dX6_count_68 : decode cX6_count 68 = .ok (.aload_n 0, 1) := by decide +kernel
theorem dX6_count_69 : decode cX6_count 69 = .ok (.getfield 26, 3) := by decide +kernel
theorem dX6_count_72 : decode cX6_count 72 = .ok (.getfield 287, 3) := by decide +kernel
theorem dX6_count_75 : decode cX6_count 75 = .ok (.ireturn, 1) := by decide +kernel
theorem dX6_count_76 : decode cX6_count 76 = .ok (.aload_n 0, 1) := by decide +kernel
theorem dX6_count_77 : decode cX6_count 77 = .ok (.getfield 26, 3) := by decide +kernel
theorem dX6_count_80 : decode cX6_count 80 = .ok (.getfield 154, 3) := by decide +kernel
theorem dX6_count_83 : decode cX6_count 83 = .ok (.ireturn, 1) := by decide +kernel
theorem dX6_count_84 : decode cX6_count 84 = .ok (.aload_n 0, 1) := by decide +kernel
theorem dX6_count_85 : decode cX6_count 85 = .ok (.getfield 26, 3) := by decide +kernel
theorem dX6_count_88 : decode cX6_count 88 = .ok (.getfield 171, 3) := by decide +kernel
theorem dX6_count_91 : decode cX6_count 91 = .ok (.ifCond .eq 20, 3) := by decide +kernel
theorem dX6_count_94 : decode cX6_count 94 = .ok (.aload_n 0, 1) := by decide +kernel
theorem dX6_count_95 : decode cX6_count 95 = .ok (.getfield 26, 3) := by decide +kernel
theorem dX6_count_98 : decode cX6_count 98 = .ok (.aload_n 0, 1) := by decide +kernel
theorem dX6_count_99 : decode cX6_count 99 = .ok (.getfield 26, 3) := by decide +kernel
theorem dX6_count_102 : decode cX6_count 102 = .ok (.getfield 154, 3) := by decide +kernel
theorem dX6_count_105 : decode cX6_count 105 = .ok (.invokevirtual 157, 3) := by decide +kernel
theorem dX6_count_108 : decode cX6_count 108 = .ok (.goto 4, 3) := by decide +kernel
theorem dX6_count_111 : decode cX6_count 111 = .ok (.iconst 0, 1) := by decide +kernel
theorem dX6_count_112 : decode cX6_count 112 = .ok (.ireturn, 1) := by decide +kernel
theorem dX6_count_113 : decode cX6_count 113 = .ok (.aload_n 0, 1) := by decide +kernel
theorem dX6_count_114 : decode cX6_count 114 = .ok (.getfield 26, 3) := by decide +kernel
theorem dX6_count_117 : decode cX6_count 117 = .ok (.getfield 175, 3) := by decide +kernel
theorem dX6_count_120 : decode cX6_count 120 = .ok (.ireturn, 1) := by decide +kernel
theorem dX6_count_121 : decode cX6_count 121 = .ok (.aload_n 0, 1) := by decide +kernel
theorem dX6_count_122 : decode cX6_count 122 = .ok (.getfield 26, 3) := by decide +kernel
theorem dX6_count_125 : decode cX6_count 125 = .ok (.getfield 290, 3) := by decide +kernel
theorem dX6_count_128 : decode cX6_count 128 = .ok (.ireturn, 1) := by decide +kernel
theorem dX6_count_129 : decode cX6_count 129 = .ok (.aload_n 0, 1) := by decide +kernel
theorem dX6_count_130 : decode cX6_count 130 = .ok (.getfield 43, 3) := by decide +kernel
theorem dX6_count_133 : decode cX6_count 133 = .ok (.getfield 178, 3) := by decide +kernel
theorem dX6_count_136 : decode cX6_count 136 = .ok (.ireturn, 1) := by decide +kernel
theorem dX6_count_137 : decode cX6_count 137 = .ok (.aload_n 0, 1) := by decide +kernel
theorem dX6_count_138 : decode cX6_count 138 = .ok (.getfield 19, 3) := by decide +kernel
theorem dX6_count_141 : decode cX6_count 141 = .ok (.getfield 293, 3) := by decide +kernel
theorem dX6_count_144 : decode cX6_count 144 = .ok (.ireturn, 1) := by decide +kernel
theorem dX6_count_145 : decode cX6_count 145 = .ok (.ldc 69, 2) := by decide +kernel
theorem dX6_count_147 : decode cX6_count 147 = .ok (.ireturn, 1) := by decide +kernel
theorem dX6_status_0 : decode cX6_status 0 = .ok (.aload_n 0, 1) := by decide +kernel
theorem dX6_status_1 : decode cX6_status 1 = .ok (.getfield 296, 3) := by decide +kernel
theorem dX6_status_4 : decode cX6_status 4 = .ok (.ireturn, 1) := by decide +kernel
theorem dX6_finding_0 : decode cX6_finding 0 = .ok (.aload_n 0, 1) := by decide +kernel
theorem dX6_finding_1 : decode cX6_finding 1 = .ok (.iload_n 1, 1) := by decide +kernel
theorem dX6_finding_2 : decode cX6_finding 2 = .ok (.putfield 296, 3) := by decide +kernel
theorem dX6_finding_5 : decode cX6_finding 5 = .ok (.ldc_w 299, 3) := by decide +kernel
theorem dX6_finding_8 : decode cX6_finding 8 = .ok (.iload_n 1, 1) := by decide +kernel
theorem dX6_finding_9 : decode cX6_finding 9 = .ok (.isub, 1) := by decide +kernel
theorem dX6_finding_10 : decode cX6_finding 10 = .ok (.ireturn, 1) := by decide +kernel
theorem dX6_answered_0 : decode cX6_answered 0 = .ok (.aload_n 0, 1) := by decide +kernel
theorem dX6_answered_1 : decode cX6_answered 1 = .ok (.iconst 0, 1) := by decide +kernel
theorem dX6_answered_2 : decode cX6_answered 2 = .ok (.putfield 296, 3) := by decide +kernel
theorem dX6_answered_5 : decode cX6_answered 5 = .ok (.iload_n 1, 1) := by decide +kernel
theorem dX6_answered_6 : decode cX6_answered 6 = .ok (.ireturn, 1) := by decide +kernel
theorem dX6_isPromise_0 : decode cX6_isPromise 0 = .ok (.iload_n 1, 1) := by decide +kernel
theorem dX6_isPromise_1 : decode cX6_isPromise 1 = .ok (.ifCond .lt 18, 3) := by decide +kernel
theorem dX6_isPromise_4 : decode cX6_isPromise 4 = .ok (.iload_n 1, 1) := by decide +kernel
theorem dX6_isPromise_5 : decode cX6_isPromise 5 = .ok (.aload_n 0, 1) := by decide +kernel
theorem dX6_isPromise_6 : decode cX6_isPromise 6 = .ok (.getfield 26, 3) := by decide +kernel
theorem dX6_isPromise_9 : decode cX6_isPromise 9 = .ok (.getfield 130, 3) := by decide +kernel
theorem dX6_isPromise_12 : decode cX6_isPromise 12 = .ok (.if_icmp .ge 7, 3) := by decide +kernel
theorem dX6_isPromise_15 : decode cX6_isPromise 15 = .ok (.iconst 1, 1) := by decide +kernel
theorem dX6_isPromise_16 : decode cX6_isPromise 16 = .ok (.goto 4, 3) := by decide +kernel
theorem dX6_isPromise_19 : decode cX6_isPromise 19 = .ok (.iconst 0, 1) := by decide +kernel
theorem dX6_isPromise_20 : decode cX6_isPromise 20 = .ok (.ireturn, 1) := by decide +kernel
theorem dX6_isGiver_0 : decode cX6_isGiver 0 = .ok (.iload_n 1, 1) := by decide +kernel
theorem dX6_isGiver_1 : decode cX6_isGiver 1 = .ok (.ifCond .lt 18, 3) := by decide +kernel
theorem dX6_isGiver_4 : decode cX6_isGiver 4 = .ok (.iload_n 1, 1) := by decide +kernel
theorem dX6_isGiver_5 : decode cX6_isGiver 5 = .ok (.aload_n 0, 1) := by decide +kernel
theorem dX6_isGiver_6 : decode cX6_isGiver 6 = .ok (.getfield 26, 3) := by decide +kernel
theorem dX6_isGiver_9 : decode cX6_isGiver 9 = .ok (.getfield 287, 3) := by decide +kernel
theorem dX6_isGiver_12 : decode cX6_isGiver 12 = .ok (.if_icmp .ge 7, 3) := by decide +kernel
theorem dX6_isGiver_15 : decode cX6_isGiver 15 = .ok (.iconst 1, 1) := by decide +kernel
theorem dX6_isGiver_16 : decode cX6_isGiver 16 = .ok (.goto 4, 3) := by decide +kernel
theorem dX6_isGiver_19 : decode cX6_isGiver 19 = .ok (.iconst 0, 1) := by decide +kernel
theorem dX6_isGiver_20 : decode cX6_isGiver 20 = .ok (.ireturn, 1) := by decide +kernel
set_option maxRecDepth 20000 in
theorem ggX6_isRow_X6_isWithin : GoodIn wsX6_isRow wsX6_isWithin := goodIn_r _ [4] (by decide +kernel) (by decide +kernel)
set_option maxRecDepth 20000 in
theorem gX6_isRow_X6_isWithin : GoodIn wsX6_isRow (va_wsS RX6 65 yX6_isWithin wsX6_isWithin) := goodIn_app (goodIn_of _ (by decide +kernel)) ggX6_isRow_X6_isWithin
theorem dX6_isRow_0 : decode cX6_isRow 0 = .ok (.iload_n 0, 1) := by decide +kernel
theorem dX6_isRow_1 : decode cX6_isRow 1 = .ok (.iconst 0, 1) := by decide +kernel
theorem dX6_isRow_2 : decode cX6_isRow 2 = .ok (.bipush 7, 2) := by decide +kernel
theorem dX6_isRow_4 : decode cX6_isRow 4 = .ok (.invokestatic 65, 3) := by decide +kernel
theorem dX6_isRow_7 : decode cX6_isRow 7 = .ok (.ireturn, 1) := by decide +kernel
set_option maxRecDepth 20000 in
theorem ggX6_isImage_X6_isWithin : GoodIn wsX6_isImage wsX6_isWithin := goodIn_r _ [4] (by decide +kernel) (by decide +kernel)
set_option maxRecDepth 20000 in
theorem gX6_isImage_X6_isWithin : GoodIn wsX6_isImage (va_wsS RX6 65 yX6_isWithin wsX6_isWithin) := goodIn_app (goodIn_of _ (by decide +kernel)) ggX6_isImage_X6_isWithin
theorem dX6_isImage_0 : decode cX6_isImage 0 = .ok (.iload_n 0, 1) := by decide +kernel
theorem dX6_isImage_1 : decode cX6_isImage 1 = .ok (.iconst 0, 1) := by decide +kernel
theorem dX6_isImage_2 : decode cX6_isImage 2 = .ok (.iconst 1, 1) := by decide +kernel
theorem dX6_isImage_3 : decode cX6_isImage 3 = .ok (.invokestatic 65, 3) := by decide +kernel
theorem dX6_isImage_6 : decode cX6_isImage 6 = .ok (.ireturn, 1) := by decide +kernel
theorem dX6_isEither_0 : decode cX6_isEither 0 = .ok (.iload_n 0, 1) := by decide +kernel
theorem dX6_isEither_1 : decode cX6_isEither 1 = .ok (.ifCond .eq 8, 3) := by decide +kernel
theorem dX6_isEither_4 : decode cX6_isEither 4 = .ok (.iload_n 0, 1) := by decide +kernel
theorem dX6_isEither_5 : decode cX6_isEither 5 = .ok (.iconst 1, 1) := by decide +kernel
theorem dX6_isEither_6 : decode cX6_isEither 6 = .ok (.if_icmp .ne 7, 3) := by decide +kernel
theorem dX6_isEither_9 : decode cX6_isEither 9 = .ok (.iconst 1, 1) := by decide +kernel
theorem dX6_isEither_10 : decode cX6_isEither 10 = .ok (.goto 4, 3) := by decide +kernel
theorem dX6_isEither_13 : decode cX6_isEither 13 = .ok (.iconst 0, 1) := by decide +kernel
theorem dX6_isEither_14 : decode cX6_isEither 14 = .ok (.ireturn, 1) := by decide +kernel
theorem dX6_isWithin_0 : decode cX6_isWithin 0 = .ok (.iload_n 0, 1) := by decide +kernel
theorem dX6_isWithin_1 : decode cX6_isWithin 1 = .ok (.iload_n 1, 1) := by decide +kernel
theorem dX6_isWithin_2 : decode cX6_isWithin 2 = .ok (.if_icmp .lt 12, 3) := by decide +kernel
theorem dX6_isWithin_5 : decode cX6_isWithin 5 = .ok (.iload_n 0, 1) := by decide +kernel
theorem dX6_isWithin_6 : decode cX6_isWithin 6 = .ok (.iload_n 2, 1) := by decide +kernel
theorem dX6_isWithin_7 : decode cX6_isWithin 7 = .ok (.if_icmp .gt 7, 3) := by decide +kernel
theorem dX6_isWithin_10 : decode cX6_isWithin 10 = .ok (.iconst 1, 1) := by decide +kernel
theorem dX6_isWithin_11 : decode cX6_isWithin 11 = .ok (.goto 4, 3) := by decide +kernel
theorem dX6_isWithin_14 : decode cX6_isWithin 14 = .ok (.iconst 0, 1) := by decide +kernel
theorem dX6_isWithin_15 : decode cX6_isWithin 15 = .ok (.ireturn, 1) := by decide +kernel
theorem dX6_reading_0 : decode cX6_reading 0 = .ok (.iload_n 1, 1) := by decide +kernel
theorem dX6_reading_1 : decode cX6_reading 1 = .ok (.iconst 1, 1) := by decide +kernel
theorem dX6_reading_2 : decode cX6_reading 2 = .ok (.if_icmp .ge 7, 3) := by decide +kernel
theorem dX6_reading_5 : decode cX6_reading 5 = .ok (.iload_n 0, 1) := by decide +kernel
theorem dX6_reading_6 : decode cX6_reading 6 = .ok (.goto 8, 3) := by decide +kernel
theorem dX6_reading_9 : decode cX6_reading 9 = .ok (.iload_n 0, 1) := by decide +kernel
theorem dX6_reading_10 : decode cX6_reading 10 = .ok (.iload_n 0, 1) := by decide +kernel
theorem dX6_reading_11 : decode cX6_reading 11 = .ok (.iload_n 1, 1) := by decide +kernel
theorem dX6_reading_12 : decode cX6_reading 12 = .ok (.irem, 1) := by decide +kernel
theorem dX6_reading_13 : decode cX6_reading 13 = .ok (.isub, 1) := by decide +kernel
theorem dX6_reading_14 : decode cX6_reading 14 = .ok (.ireturn, 1) := by decide +kernel
theorem dX6_commonDivisor_0 : decode cX6_commonDivisor 0 = .ok (.iload_n 0, 1) := by decide +kernel
theorem dX6_commonDivisor_1 : decode cX6_commonDivisor 1 = .ok (.istore_n 2, 1) := by decide +kernel
theorem dX6_commonDivisor_2 : decode cX6_commonDivisor 2 = .ok (.iload_n 1, 1) := by decide +kernel
theorem dX6_commonDivisor_3 : decode cX6_commonDivisor 3 = .ok (.istore_n 3, 1) := by decide +kernel
theorem dX6_commonDivisor_4 : decode cX6_commonDivisor 4 = .ok (.iconst 0, 1) := by decide +kernel
theorem dX6_commonDivisor_5 : decode cX6_commonDivisor 5 = .ok (.istore 4, 2) := by decide +kernel
theorem dX6_commonDivisor_7 : decode cX6_commonDivisor 7 = .ok (.iload 4, 2) := by decide +kernel
theorem dX6_commonDivisor_9 : decode cX6_commonDivisor 9 = .ok (.bipush 64, 2) := by decide +kernel
theorem dX6_commonDivisor_11 : decode cX6_commonDivisor 11 = .ok (.if_icmp .ge 23, 3) := by decide +kernel
theorem dX6_commonDivisor_14 : decode cX6_commonDivisor 14 = .ok (.iload_n 3, 1) := by decide +kernel
theorem dX6_commonDivisor_15 : decode cX6_commonDivisor 15 = .ok (.ifCond .eq 19, 3) := by decide +kernel
theorem dX6_commonDivisor_18 : decode cX6_commonDivisor 18 = .ok (.iload_n 2, 1) := by decide +kernel
theorem dX6_commonDivisor_19 : decode cX6_commonDivisor 19 = .ok (.iload_n 3, 1) := by decide +kernel
theorem dX6_commonDivisor_20 : decode cX6_commonDivisor 20 = .ok (.irem, 1) := by decide +kernel
theorem dX6_commonDivisor_21 : decode cX6_commonDivisor 21 = .ok (.istore 5, 2) := by decide +kernel
theorem dX6_commonDivisor_23 : decode cX6_commonDivisor 23 = .ok (.iload_n 3, 1) := by decide +kernel
theorem dX6_commonDivisor_24 : decode cX6_commonDivisor 24 = .ok (.istore_n 2, 1) := by decide +kernel
theorem dX6_commonDivisor_25 : decode cX6_commonDivisor 25 = .ok (.iload 5, 2) := by decide +kernel
theorem dX6_commonDivisor_27 : decode cX6_commonDivisor 27 = .ok (.istore_n 3, 1) := by decide +kernel
theorem dX6_commonDivisor_28 : decode cX6_commonDivisor 28 = .ok (.iinc 4 1, 3) := by decide +kernel
theorem dX6_commonDivisor_31 : decode cX6_commonDivisor 31 = .ok (.goto (-24), 3) := by decide +kernel
theorem dX6_commonDivisor_34 : decode cX6_commonDivisor 34 = .ok (.iload_n 2, 1) := by decide +kernel
theorem dX6_commonDivisor_35 : decode cX6_commonDivisor 35 = .ok (.ireturn, 1) := by decide +kernel
theorem dX6_kindAbove_0 : decode cX6_kindAbove 0 = .ok (.iload_n 0, 1) := by decide +kernel
theorem dX6_kindAbove_1 : decode cX6_kindAbove 1 = .ok (.tableswitch 41 1 5 #[39, 35, 35, 39, 37], 35) := by decide +kernel
theorem dX6_kindAbove_36 : decode cX6_kindAbove 36 = .ok (.iconst 1, 1) := by decide +kernel
theorem dX6_kindAbove_37 : decode cX6_kindAbove 37 = .ok (.ireturn, 1) := by decide +kernel
theorem dX6_kindAbove_38 : decode cX6_kindAbove 38 = .ok (.iconst 4, 1) := by decide +kernel
theorem dX6_kindAbove_39 : decode cX6_kindAbove 39 = .ok (.ireturn, 1) := by decide +kernel
theorem dX6_kindAbove_40 : decode cX6_kindAbove 40 = .ok (.iconst 0, 1) := by decide +kernel
theorem dX6_kindAbove_41 : decode cX6_kindAbove 41 = .ok (.ireturn, 1) := by decide +kernel
theorem dX6_kindAbove_42 : decode cX6_kindAbove 42 = .ok (.iconst (-1), 1) := by decide +kernel
theorem dX6_kindAbove_43 : decode cX6_kindAbove 43 = .ok (.ireturn, 1) := by decide +kernel
set_option maxRecDepth 20000 in
theorem ggX6_isOfKind_X6_kindAbove : GoodIn wsX6_isOfKind wsX6_kindAbove := goodIn_r _ [4] (by decide +kernel) (by decide +kernel)
set_option maxRecDepth 20000 in
theorem gX6_isOfKind_X6_kindAbove : GoodIn wsX6_isOfKind (va_wsS RX6 300 yX6_kindAbove wsX6_kindAbove) := goodIn_app (goodIn_of _ (by decide +kernel)) ggX6_isOfKind_X6_kindAbove
theorem dX6_isOfKind_0 : decode cX6_isOfKind 0 = .ok (.iload_n 0, 1) := by decide +kernel
theorem dX6_isOfKind_1 : decode cX6_isOfKind 1 = .ok (.istore_n 2, 1) := by decide +kernel
theorem dX6_isOfKind_2 : decode cX6_isOfKind 2 = .ok (.iconst 0, 1) := by decide +kernel
theorem dX6_isOfKind_3 : decode cX6_isOfKind 3 = .ok (.istore_n 3, 1) := by decide +kernel
theorem dX6_isOfKind_4 : decode cX6_isOfKind 4 = .ok (.iload_n 3, 1) := by decide +kernel
theorem dX6_isOfKind_5 : decode cX6_isOfKind 5 = .ok (.iconst 5, 1) := by decide +kernel
theorem dX6_isOfKind_6 : decode cX6_isOfKind 6 = .ok (.if_icmp .gt 25, 3) := by decide +kernel
theorem dX6_isOfKind_9 : decode cX6_isOfKind 9 = .ok (.iload_n 2, 1) := by decide +kernel
theorem dX6_isOfKind_10 : decode cX6_isOfKind 10 = .ok (.ifCond .lt 21, 3) := by decide +kernel
theorem dX6_isOfKind_13 : decode cX6_isOfKind 13 = .ok (.iload_n 2, 1) := by decide +kernel
theorem dX6_isOfKind_14 : decode cX6_isOfKind 14 = .ok (.iload_n 1, 1) := by decide +kernel
theorem dX6_isOfKind_15 : decode cX6_isOfKind 15 = .ok (.if_icmp .ne 5, 3) := by decide +kernel
theorem dX6_isOfKind_18 : decode cX6_isOfKind 18 = .ok (.iconst 1, 1) := by decide +kernel
theorem dX6_isOfKind_19 : decode cX6_isOfKind 19 = .ok (.ireturn, 1) := by decide +kernel
theorem dX6_isOfKind_20 : decode cX6_isOfKind 20 = .ok (.iload_n 2, 1) := by decide +kernel
theorem dX6_isOfKind_21 : decode cX6_isOfKind 21 = .ok (.invokestatic 300, 3) := by decide +kernel
theorem dX6_isOfKind_24 : decode cX6_isOfKind 24 = .ok (.istore_n 2, 1) := by decide +kernel
theorem dX6_isOfKind_25 : decode cX6_isOfKind 25 = .ok (.iinc 3 1, 3) := by decide +kernel
theorem dX6_isOfKind_28 : decode cX6_isOfKind 28 = .ok (.goto (-24), 3) := by decide +kernel
theorem dX6_isOfKind_31 : decode cX6_isOfKind 31 = .ok (.iconst 0, 1) := by decide +kernel
theorem dX6_isOfKind_32 : decode cX6_isOfKind 32 = .ok (.ireturn, 1) := by decide +kernel
set_option maxRecDepth 20000 in
theorem ggX6_areSets_X4_isSet : GoodIn wsX6_areSets wsX4_isSet := goodIn_r _ [6, 7, 19, 20, 21, 22, 23, 24, 25, 26, 27, 28, 29, 30, 31] (by decide +kernel) (by decide +kernel)
set_option maxRecDepth 20000 in
theorem gX6_areSets_X4_isSet : GoodIn wsX6_areSets (wsV RX6 202 RX4 yX4_isSet wsX4_isSet) := goodIn_app (goodIn_of _ (by decide +kernel)) ggX6_areSets_X4_isSet
theorem dX6_areSets_0 : decode cX6_areSets 0 = .ok (.iconst 0, 1) := by decide +kernel
theorem dX6_areSets_1 : decode cX6_areSets 1 = .ok (.istore 4, 2) := by decide +kernel
theorem dX6_areSets_3 : decode cX6_areSets 3 = .ok (.iload 4, 2) := by decide +kernel
theorem dX6_areSets_5 : decode cX6_areSets 5 = .ok (.iload_n 3, 1) := by decide +kernel
theorem dX6_areSets_6 : decode cX6_areSets 6 = .ok (.if_icmp .ge 29, 3) := by decide +kernel
theorem dX6_areSets_9 : decode cX6_areSets 9 = .ok (.aload_n 0, 1) := by decide +kernel
theorem dX6_areSets_10 : decode cX6_areSets 10 = .ok (.getfield 26, 3) := by decide +kernel
theorem dX6_areSets_13 : decode cX6_areSets 13 = .ok (.aload_n 1, 1) := by decide +kernel
theorem dX6_areSets_14 : decode cX6_areSets 14 = .ok (.iload_n 2, 1) := by decide +kernel
theorem dX6_areSets_15 : decode cX6_areSets 15 = .ok (.iconst 2, 1) := by decide +kernel
theorem dX6_areSets_16 : decode cX6_areSets 16 = .ok (.iload 4, 2) := by decide +kernel
theorem dX6_areSets_18 : decode cX6_areSets 18 = .ok (.imul, 1) := by decide +kernel
theorem dX6_areSets_19 : decode cX6_areSets 19 = .ok (.iadd, 1) := by decide +kernel
theorem dX6_areSets_20 : decode cX6_areSets 20 = .ok (.iaload, 1) := by decide +kernel
theorem dX6_areSets_21 : decode cX6_areSets 21 = .ok (.invokevirtual 202, 3) := by decide +kernel
theorem dX6_areSets_24 : decode cX6_areSets 24 = .ok (.ifCond .ne 5, 3) := by decide +kernel
theorem dX6_areSets_27 : decode cX6_areSets 27 = .ok (.iconst 0, 1) := by decide +kernel
theorem dX6_areSets_28 : decode cX6_areSets 28 = .ok (.ireturn, 1) := by decide +kernel
theorem dX6_areSets_29 : decode cX6_areSets 29 = .ok (.iinc 4 1, 3) := by decide +kernel
theorem dX6_areSets_32 : decode cX6_areSets 32 = .ok (.goto (-29), 3) := by decide +kernel
theorem dX6_areSets_35 : decode cX6_areSets 35 = .ok (.iconst 1, 1) := by decide +kernel
theorem dX6_areSets_36 : decode cX6_areSets 36 = .ok (.ireturn, 1) := by decide +kernel
set_option maxRecDepth 20000 in
theorem ggX6_waxesFound_X2_areRead : GoodIn wsX6_waxesFound wsX2_areRead := goodIn_r _ [8, 9, 10, 11, 7, 12, 13, 14, 15, 16, 17, 42, 43, 44, 45, 46, 47, 48] (by decide +kernel) (by decide +kernel)
set_option maxRecDepth 20000 in
theorem gX6_waxesFound_X2_areRead : GoodIn wsX6_waxesFound (wsV RX6 303 RX2 yX2_areRead wsX2_areRead) := goodIn_app (goodIn_of _ (by decide +kernel)) ggX6_waxesFound_X2_areRead
theorem dX6_waxesFound_0 : decode cX6_waxesFound 0 = .ok (.iconst 0, 1) := by decide +kernel
theorem dX6_waxesFound_1 : decode cX6_waxesFound 1 = .ok (.istore 4, 2) := by decide +kernel
theorem dX6_waxesFound_3 : decode cX6_waxesFound 3 = .ok (.iconst 0, 1) := by decide +kernel
theorem dX6_waxesFound_4 : decode cX6_waxesFound 4 = .ok (.istore 5, 2) := by decide +kernel
theorem dX6_waxesFound_6 : decode cX6_waxesFound 6 = .ok (.iload 5, 2) := by decide +kernel
theorem dX6_waxesFound_8 : decode cX6_waxesFound 8 = .ok (.bipush 9, 2) := by decide +kernel
theorem dX6_waxesFound_10 : decode cX6_waxesFound 10 = .ok (.if_icmp .gt 40, 3) := by decide +kernel
theorem dX6_waxesFound_13 : decode cX6_waxesFound 13 = .ok (.aload_n 0, 1) := by decide +kernel
theorem dX6_waxesFound_14 : decode cX6_waxesFound 14 = .ok (.getfield 50, 3) := by decide +kernel
theorem dX6_waxesFound_17 : decode cX6_waxesFound 17 = .ok (.aload_n 1, 1) := by decide +kernel
theorem dX6_waxesFound_18 : decode cX6_waxesFound 18 = .ok (.iload_n 2, 1) := by decide +kernel
theorem dX6_waxesFound_19 : decode cX6_waxesFound 19 = .ok (.iload_n 3, 1) := by decide +kernel
theorem dX6_waxesFound_20 : decode cX6_waxesFound 20 = .ok (.iload 5, 2) := by decide +kernel
theorem dX6_waxesFound_22 : decode cX6_waxesFound 22 = .ok (.aload_n 0, 1) := by decide +kernel
theorem dX6_waxesFound_23 : decode cX6_waxesFound 23 = .ok (.getfield 26, 3) := by decide +kernel
theorem dX6_waxesFound_26 : decode cX6_waxesFound 26 = .ok (.getfield 290, 3) := by decide +kernel
theorem dX6_waxesFound_29 : decode cX6_waxesFound 29 = .ok (.invokevirtual 303, 3) := by decide +kernel
theorem dX6_waxesFound_32 : decode cX6_waxesFound 32 = .ok (.ifCond .eq 12, 3) := by decide +kernel
theorem dX6_waxesFound_35 : decode cX6_waxesFound 35 = .ok (.iload 4, 2) := by decide +kernel
theorem dX6_waxesFound_37 : decode cX6_waxesFound 37 = .ok (.iconst 1, 1) := by decide +kernel
theorem dX6_waxesFound_38 : decode cX6_waxesFound 38 = .ok (.iload 5, 2) := by decide +kernel
theorem dX6_waxesFound_40 : decode cX6_waxesFound 40 = .ok (.ishl, 1) := by decide +kernel
theorem dX6_waxesFound_41 : decode cX6_waxesFound 41 = .ok (.ior, 1) := by decide +kernel
theorem dX6_waxesFound_42 : decode cX6_waxesFound 42 = .ok (.istore 4, 2) := by decide +kernel
theorem dX6_waxesFound_44 : decode cX6_waxesFound 44 = .ok (.iinc 5 1, 3) := by decide +kernel
theorem dX6_waxesFound_47 : decode cX6_waxesFound 47 = .ok (.goto (-41), 3) := by decide +kernel
theorem dX6_waxesFound_50 : decode cX6_waxesFound 50 = .ok (.iload 4, 2) := by decide +kernel
theorem dX6_waxesFound_52 : decode cX6_waxesFound 52 = .ok (.ireturn, 1) := by decide +kernel
set_option maxRecDepth 20000 in
theorem ggX6_sticksFound_X2_areRead : GoodIn wsX6_sticksFound wsX2_areRead := goodIn_r _ [8, 9, 10, 11, 7, 12, 13, 14, 15, 16, 17, 42, 43, 44, 45, 46, 47, 48] (by decide +kernel) (by decide +kernel)
set_option maxRecDepth 20000 in
theorem gX6_sticksFound_X2_areRead : GoodIn wsX6_sticksFound (wsV RX6 303 RX2 yX2_areRead wsX2_areRead) := goodIn_app (goodIn_of _ (by decide +kernel)) ggX6_sticksFound_X2_areRead
theorem dX6_sticksFound_0 : decode cX6_sticksFound 0 = .ok (.iconst 0, 1) := by decide +kernel
theorem dX6_sticksFound_1 : decode cX6_sticksFound 1 = .ok (.istore 4, 2) := by decide +kernel
theorem dX6_sticksFound_3 : decode cX6_sticksFound 3 = .ok (.iconst 1, 1) := by decide +kernel
theorem dX6_sticksFound_4 : decode cX6_sticksFound 4 = .ok (.istore 5, 2) := by decide +kernel
theorem dX6_sticksFound_6 : decode cX6_sticksFound 6 = .ok (.iload 5, 2) := by decide +kernel
theorem dX6_sticksFound_8 : decode cX6_sticksFound 8 = .ok (.iconst 5, 1) := by decide +kernel
theorem dX6_sticksFound_9 : decode cX6_sticksFound 9 = .ok (.if_icmp .gt 42, 3) := by decide +kernel
theorem dX6_sticksFound_12 : decode cX6_sticksFound 12 = .ok (.aload_n 0, 1) := by decide +kernel
theorem dX6_sticksFound_13 : decode cX6_sticksFound 13 = .ok (.getfield 50, 3) := by decide +kernel
theorem dX6_sticksFound_16 : decode cX6_sticksFound 16 = .ok (.aload_n 1, 1) := by decide +kernel
theorem dX6_sticksFound_17 : decode cX6_sticksFound 17 = .ok (.iload_n 2, 1) := by decide +kernel
theorem dX6_sticksFound_18 : decode cX6_sticksFound 18 = .ok (.iload_n 3, 1) := by decide +kernel
theorem dX6_sticksFound_19 : decode cX6_sticksFound 19 = .ok (.aload_n 0, 1) := by decide +kernel
theorem dX6_sticksFound_20 : decode cX6_sticksFound 20 = .ok (.getfield 26, 3) := by decide +kernel
theorem dX6_sticksFound_23 : decode cX6_sticksFound 23 = .ok (.getfield 175, 3) := by decide +kernel
theorem dX6_sticksFound_26 : decode cX6_sticksFound 26 = .ok (.iload 5, 2) := by decide +kernel
theorem dX6_sticksFound_28 : decode cX6_sticksFound 28 = .ok (.invokevirtual 303, 3) := by decide +kernel
theorem dX6_sticksFound_31 : decode cX6_sticksFound 31 = .ok (.ifCond .eq 14, 3) := by decide +kernel
theorem dX6_sticksFound_34 : decode cX6_sticksFound 34 = .ok (.iload 4, 2) := by decide +kernel
theorem dX6_sticksFound_36 : decode cX6_sticksFound 36 = .ok (.iconst 1, 1) := by decide +kernel
theorem dX6_sticksFound_37 : decode cX6_sticksFound 37 = .ok (.iload 5, 2) := by decide +kernel
theorem dX6_sticksFound_39 : decode cX6_sticksFound 39 = .ok (.iconst 1, 1) := by decide +kernel
theorem dX6_sticksFound_40 : decode cX6_sticksFound 40 = .ok (.isub, 1) := by decide +kernel
theorem dX6_sticksFound_41 : decode cX6_sticksFound 41 = .ok (.ishl, 1) := by decide +kernel
theorem dX6_sticksFound_42 : decode cX6_sticksFound 42 = .ok (.ior, 1) := by decide +kernel
theorem dX6_sticksFound_43 : decode cX6_sticksFound 43 = .ok (.istore 4, 2) := by decide +kernel
theorem dX6_sticksFound_45 : decode cX6_sticksFound 45 = .ok (.iinc 5 1, 3) := by decide +kernel
theorem dX6_sticksFound_48 : decode cX6_sticksFound 48 = .ok (.goto (-42), 3) := by decide +kernel
theorem dX6_sticksFound_51 : decode cX6_sticksFound 51 = .ok (.iload 4, 2) := by decide +kernel
theorem dX6_sticksFound_53 : decode cX6_sticksFound 53 = .ok (.ireturn, 1) := by decide +kernel
