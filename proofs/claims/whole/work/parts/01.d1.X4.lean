theorem dX4_mourned_60 : decode cX4_mourned 60 = .ok (.iconst 4, 1) := by decide +kernel
theorem dX4_mourned_61 : decode cX4_mourned 61 = .ok (.iadd, 1) := by decide +kernel
theorem dX4_mourned_62 : decode cX4_mourned 62 = .ok (.iaload, 1) := by decide +kernel
theorem dX4_mourned_63 : decode cX4_mourned 63 = .ok (.bipush (-8), 2) := by decide +kernel
theorem dX4_mourned_65 : decode cX4_mourned 65 = .ok (.if_icmp .ne 9, 3) := by decide +kernel
theorem dX4_mourned_68 : decode cX4_mourned 68 = .ok (.iconst 1, 1) := by decide +kernel
theorem dX4_mourned_69 : decode cX4_mourned 69 = .ok (.iload_n 3, 1) := by decide +kernel
theorem dX4_mourned_70 : decode cX4_mourned 70 = .ok (.ishl, 1) := by decide +kernel
theorem dX4_mourned_71 : decode cX4_mourned 71 = .ok (.goto 4, 3) := by decide +kernel
theorem dX4_mourned_74 : decode cX4_mourned 74 = .ok (.iconst 0, 1) := by decide +kernel
theorem dX4_mourned_75 : decode cX4_mourned 75 = .ok (.ior, 1) := by decide +kernel
theorem dX4_mourned_76 : decode cX4_mourned 76 = .ok (.istore_n 2, 1) := by decide +kernel
theorem dX4_mourned_77 : decode cX4_mourned 77 = .ok (.iinc 3 1, 3) := by decide +kernel
theorem dX4_mourned_80 : decode cX4_mourned 80 = .ok (.goto (-39), 3) := by decide +kernel
theorem dX4_mourned_83 : decode cX4_mourned 83 = .ok (.iload_n 2, 1) := by decide +kernel
theorem dX4_mourned_84 : decode cX4_mourned 84 = .ok (.ireturn, 1) := by decide +kernel
set_option maxRecDepth 20000 in
theorem ggX4_first_X4_isIn : GoodIn wsX4_first wsX4_isIn := goodIn_r _ [6] (by decide +kernel) (by decide +kernel)
set_option maxRecDepth 20000 in
theorem gX4_first_X4_isIn : GoodIn wsX4_first (va_wsS RX4 47 yX4_isIn wsX4_isIn) := goodIn_app (goodIn_of _ (by decide +kernel)) ggX4_first_X4_isIn
set_option maxRecDepth 20000 in
theorem ggX4_first_X4_no : GoodIn wsX4_first wsX4_no := goodIn_r _ [10, 11, 60, 61, 62, 63, 64, 65, 66, 67, 68, 69, 70, 71, 72, 73, 74, 75] (by decide +kernel) (by decide +kernel)
set_option maxRecDepth 20000 in
theorem gX4_first_X4_no : GoodIn wsX4_first (wsV RX4 41 RX4 yX4_no wsX4_no) := goodIn_app (goodIn_of _ (by decide +kernel)) ggX4_first_X4_no
set_option maxRecDepth 20000 in
theorem ggX4_first_X4_isWhole : GoodIn wsX4_first wsX4_isWhole := goodIn_r _ [14, 15, 16, 5, 17] (by decide +kernel) (by decide +kernel)
set_option maxRecDepth 20000 in
theorem gX4_first_X4_isWhole : GoodIn wsX4_first (va_wsS RX4 72 yX4_isWhole wsX4_isWhole) := goodIn_app (goodIn_of _ (by decide +kernel)) ggX4_first_X4_isWhole
set_option maxRecDepth 20000 in
theorem ggX4_first_X4_whenOf : GoodIn wsX4_first wsX4_whenOf := goodIn_r _ [21, 2, 22, 23, 24, 5, 25, 26, 27, 28, 29, 30, 31, 32, 12, 13, 14, 15, 16, 17, 33, 34, 35, 36, 37, 38, 39, 40, 41, 42, 43, 44, 45, 46, 47, 48, 49, 50, 51, 52, 53, 54, 55, 56, 57, 58, 59, 60, 61, 62, 63, 64, 65, 66, 67, 68, 69, 70, 71, 72, 73, 74, 75] (by decide +kernel) (by decide +kernel)
set_option maxRecDepth 20000 in
theorem gX4_first_X4_whenOf : GoodIn wsX4_first (wsV RX4 167 RX4 yX4_whenOf wsX4_whenOf) := goodIn_app (goodIn_of _ (by decide +kernel)) ggX4_first_X4_whenOf
theorem dX4_first_0 : decode cX4_first 0 = .ok (.iload_n 1, 1) := by decide +kernel
theorem dX4_first_1 : decode cX4_first 1 = .ok (.iconst 0, 1) := by decide +kernel
theorem dX4_first_2 : decode cX4_first 2 = .ok (.iconst 1, 1) := by decide +kernel
theorem dX4_first_3 : decode cX4_first 3 = .ok (.invokestatic 47, 3) := by decide +kernel
theorem dX4_first_6 : decode cX4_first 6 = .ok (.ifCond .ne 10, 3) := by decide +kernel
theorem dX4_first_9 : decode cX4_first 9 = .ok (.aload_n 0, 1) := by decide +kernel
theorem dX4_first_10 : decode cX4_first 10 = .ok (.bipush (-2), 2) := by decide +kernel
theorem dX4_first_12 : decode cX4_first 12 = .ok (.invokevirtual 41, 3) := by decide +kernel
theorem dX4_first_15 : decode cX4_first 15 = .ok (.ireturn, 1) := by decide +kernel
theorem dX4_first_16 : decode cX4_first 16 = .ok (.bipush (-9), 2) := by decide +kernel
theorem dX4_first_18 : decode cX4_first 18 = .ok (.istore_n 2, 1) := by decide +kernel
theorem dX4_first_19 : decode cX4_first 19 = .ok (.ldc 40, 2) := by decide +kernel
theorem dX4_first_21 : decode cX4_first 21 = .ok (.istore_n 3, 1) := by decide +kernel
theorem dX4_first_22 : decode cX4_first 22 = .ok (.iconst 0, 1) := by decide +kernel
theorem dX4_first_23 : decode cX4_first 23 = .ok (.istore 4, 2) := by decide +kernel
theorem dX4_first_25 : decode cX4_first 25 = .ok (.iload 4, 2) := by decide +kernel
theorem dX4_first_27 : decode cX4_first 27 = .ok (.aload_n 0, 1) := by decide +kernel
theorem dX4_first_28 : decode cX4_first 28 = .ok (.getfield 9, 3) := by decide +kernel
theorem dX4_first_31 : decode cX4_first 31 = .ok (.iconst 1, 1) := by decide +kernel
theorem dX4_first_32 : decode cX4_first 32 = .ok (.iaload, 1) := by decide +kernel
theorem dX4_first_33 : decode cX4_first 33 = .ok (.if_icmp .ge 57, 3) := by decide +kernel
theorem dX4_first_36 : decode cX4_first 36 = .ok (.aload_n 0, 1) := by decide +kernel
theorem dX4_first_37 : decode cX4_first 37 = .ok (.getfield 9, 3) := by decide +kernel
theorem dX4_first_40 : decode cX4_first 40 = .ok (.iload 4, 2) := by decide +kernel
theorem dX4_first_42 : decode cX4_first 42 = .ok (.invokestatic 72, 3) := by decide +kernel
theorem dX4_first_45 : decode cX4_first 45 = .ok (.ifCond .eq 15, 3) := by decide +kernel
theorem dX4_first_48 : decode cX4_first 48 = .ok (.aload_n 0, 1) := by decide +kernel
theorem dX4_first_49 : decode cX4_first 49 = .ok (.iconst 1, 1) := by decide +kernel
theorem dX4_first_50 : decode cX4_first 50 = .ok (.iload 4, 2) := by decide +kernel
theorem dX4_first_52 : decode cX4_first 52 = .ok (.ishl, 1) := by decide +kernel
theorem dX4_first_53 : decode cX4_first 53 = .ok (.iconst 0, 1) := by decide +kernel
theorem dX4_first_54 : decode cX4_first 54 = .ok (.invokevirtual 167, 3) := by decide +kernel
theorem dX4_first_57 : decode cX4_first 57 = .ok (.goto 5, 3) := by decide +kernel
theorem dX4_first_60 : decode cX4_first 60 = .ok (.bipush (-9), 2) := by decide +kernel
theorem dX4_first_62 : decode cX4_first 62 = .ok (.istore 5, 2) := by decide +kernel
theorem dX4_first_64 : decode cX4_first 64 = .ok (.iload 5, 2) := by decide +kernel
theorem dX4_first_66 : decode cX4_first 66 = .ok (.ifCond .lt 18, 3) := by decide +kernel
theorem dX4_first_69 : decode cX4_first 69 = .ok (.iload 5, 2) := by decide +kernel
theorem dX4_first_71 : decode cX4_first 71 = .ok (.iload_n 3, 1) := by decide +kernel
theorem dX4_first_72 : decode cX4_first 72 = .ok (.if_icmp .lt 6, 3) := by decide +kernel
theorem dX4_first_75 : decode cX4_first 75 = .ok (.goto 9, 3) := by decide +kernel
theorem dX4_first_78 : decode cX4_first 78 = .ok (.iload 4, 2) := by decide +kernel
theorem dX4_first_80 : decode cX4_first 80 = .ok (.istore_n 2, 1) := by decide +kernel
theorem dX4_first_81 : decode cX4_first 81 = .ok (.iload 5, 2) := by decide +kernel
theorem dX4_first_83 : decode cX4_first 83 = .ok (.istore_n 3, 1) := by decide +kernel
theorem dX4_first_84 : decode cX4_first 84 = .ok (.iinc 4 1, 3) := by decide +kernel
theorem dX4_first_87 : decode cX4_first 87 = .ok (.goto (-62), 3) := by decide +kernel
theorem dX4_first_90 : decode cX4_first 90 = .ok (.iload_n 2, 1) := by decide +kernel
theorem dX4_first_91 : decode cX4_first 91 = .ok (.ifCond .lt 7, 3) := by decide +kernel
theorem dX4_first_94 : decode cX4_first 94 = .ok (.iload_n 1, 1) := by decide +kernel
theorem dX4_first_95 : decode cX4_first 95 = .ok (.ifCond .ne 7, 3) := by decide +kernel
theorem dX4_first_98 : decode cX4_first 98 = .ok (.iload_n 2, 1) := by decide +kernel
theorem dX4_first_99 : decode cX4_first 99 = .ok (.goto 4, 3) := by decide +kernel
theorem dX4_first_102 : decode cX4_first 102 = .ok (.iload_n 3, 1) := by decide +kernel
theorem dX4_first_103 : decode cX4_first 103 = .ok (.ireturn, 1) := by decide +kernel
set_option maxRecDepth 20000 in
theorem ggX4_menders_X4_isThing : GoodIn wsX4_menders wsX4_isThing := goodIn_r _ [5, 6, 7, 8, 4, 9, 34, 35, 36, 37, 38, 39, 40, 41, 42, 43, 44, 45, 46, 47, 48, 49] (by decide +kernel) (by decide +kernel)
set_option maxRecDepth 20000 in
theorem gX4_menders_X4_isThing : GoodIn wsX4_menders (wsV RX4 133 RX4 yX4_isThing wsX4_isThing) := goodIn_app (goodIn_of _ (by decide +kernel)) ggX4_menders_X4_isThing
set_option maxRecDepth 20000 in
theorem ggX4_menders_X4_mendersOf : GoodIn wsX4_menders wsX4_mendersOf := goodIn_r _ [13, 6, 14, 15, 4, 16, 17, 18, 19, 20, 21, 22, 23, 24, 25, 26, 27, 28, 34, 35, 36, 37, 38, 39, 40, 41, 42, 43, 44, 45, 46, 47, 48, 49] (by decide +kernel) (by decide +kernel)
set_option maxRecDepth 20000 in
theorem gX4_menders_X4_mendersOf : GoodIn wsX4_menders (wsV RX4 150 RX4 yX4_mendersOf wsX4_mendersOf) := goodIn_app (goodIn_of _ (by decide +kernel)) ggX4_menders_X4_mendersOf
set_option maxRecDepth 20000 in
theorem ggX4_menders_X4_no : GoodIn wsX4_menders wsX4_no := goodIn_r _ [32, 33, 34, 35, 36, 37, 38, 39, 40, 41, 42, 43, 44, 45, 46, 47, 48, 49] (by decide +kernel) (by decide +kernel)
set_option maxRecDepth 20000 in
theorem gX4_menders_X4_no : GoodIn wsX4_menders (wsV RX4 41 RX4 yX4_no wsX4_no) := goodIn_app (goodIn_of _ (by decide +kernel)) ggX4_menders_X4_no
theorem dX4_menders_0 : decode cX4_menders 0 = .ok (.aload_n 0, 1) := by decide +kernel
theorem dX4_menders_1 : decode cX4_menders 1 = .ok (.iload_n 1, 1) := by decide +kernel
theorem dX4_menders_2 : decode cX4_menders 2 = .ok (.invokevirtual 133, 3) := by decide +kernel
theorem dX4_menders_5 : decode cX4_menders 5 = .ok (.ifCond .eq 11, 3) := by decide +kernel
theorem dX4_menders_8 : decode cX4_menders 8 = .ok (.aload_n 0, 1) := by decide +kernel
theorem dX4_menders_9 : decode cX4_menders 9 = .ok (.iload_n 1, 1) := by decide +kernel
theorem dX4_menders_10 : decode cX4_menders 10 = .ok (.invokevirtual 150, 3) := by decide +kernel
theorem dX4_menders_13 : decode cX4_menders 13 = .ok (.goto 8, 3) := by decide +kernel
theorem dX4_menders_16 : decode cX4_menders 16 = .ok (.aload_n 0, 1) := by decide +kernel
theorem dX4_menders_17 : decode cX4_menders 17 = .ok (.iconst (-1), 1) := by decide +kernel
theorem dX4_menders_18 : decode cX4_menders 18 = .ok (.invokevirtual 41, 3) := by decide +kernel
theorem dX4_menders_21 : decode cX4_menders 21 = .ok (.ireturn, 1) := by decide +kernel
set_option maxRecDepth 20000 in
theorem ggX4_gives_X4_has : GoodIn wsX4_gives wsX4_has := goodIn_r _ [8] (by decide +kernel) (by decide +kernel)
set_option maxRecDepth 20000 in
theorem gX4_gives_X4_has : GoodIn wsX4_gives (va_wsS RX4 173 yX4_has wsX4_has) := goodIn_app (goodIn_of _ (by decide +kernel)) ggX4_gives_X4_has
set_option maxRecDepth 20000 in
theorem ggX4_gives_X4_mayMend : GoodIn wsX4_gives wsX4_mayMend := goodIn_r _ [11, 12, 13, 7, 14, 15, 16, 17, 18, 19, 20, 21, 22, 23, 24, 25, 26] (by decide +kernel) (by decide +kernel)
set_option maxRecDepth 20000 in
theorem gX4_gives_X4_mayMend : GoodIn wsX4_gives (va_wsS RX4 69 yX4_mayMend wsX4_mayMend) := goodIn_app (goodIn_of _ (by decide +kernel)) ggX4_gives_X4_mayMend
set_option maxRecDepth 20000 in
theorem ggX4_gives_X4_gives : GoodIn wsX4_gives wsX4_gives := goodIn_r _ [0, 1, 2, 3, 4, 5, 6, 7, 8, 9, 10, 11, 12, 13, 14, 15, 16, 17, 18, 19, 20, 21, 22, 23, 24, 25, 26, 27, 28, 29, 30, 31, 32, 33, 34, 35, 36, 37, 38, 39, 40, 41, 42, 43, 44, 45] (by decide +kernel) (by decide +kernel)
set_option maxRecDepth 20000 in
theorem gX4_gives_X4_gives : GoodIn wsX4_gives (wsV RX4 176 RX4 yX4_gives wsX4_gives) := goodIn_app (goodIn_of _ (by decide +kernel)) ggX4_gives_X4_gives
theorem dX4_gives_0 : decode cX4_gives 0 = .ok (.iload_n 1, 1) := by decide +kernel
theorem dX4_gives_1 : decode cX4_gives 1 = .ok (.aload_n 0, 1) := by decide +kernel
theorem dX4_gives_2 : decode cX4_gives 2 = .ok (.getfield 9, 3) := by decide +kernel
theorem dX4_gives_5 : decode cX4_gives 5 = .ok (.iconst 1, 1) := by decide +kernel
theorem dX4_gives_6 : decode cX4_gives 6 = .ok (.iaload, 1) := by decide +kernel
theorem dX4_gives_7 : decode cX4_gives 7 = .ok (.if_icmp .ne 48, 3) := by decide +kernel
theorem dX4_gives_10 : decode cX4_gives 10 = .ok (.iload_n 3, 1) := by decide +kernel
theorem dX4_gives_11 : decode cX4_gives 11 = .ok (.aload_n 0, 1) := by decide +kernel
theorem dX4_gives_12 : decode cX4_gives 12 = .ok (.getfield 170, 3) := by decide +kernel
theorem dX4_gives_15 : decode cX4_gives 15 = .ok (.if_icmp .gt 4, 3) := by decide +kernel
theorem dX4_gives_18 : decode cX4_gives 18 = .ok (.return_, 1) := by decide +kernel
theorem dX4_gives_19 : decode cX4_gives 19 = .ok (.aload_n 0, 1) := by decide +kernel
theorem dX4_gives_20 : decode cX4_gives 20 = .ok (.iload_n 3, 1) := by decide +kernel
theorem dX4_gives_21 : decode cX4_gives 21 = .ok (.putfield 170, 3) := by decide +kernel
theorem dX4_gives_24 : decode cX4_gives 24 = .ok (.iconst 0, 1) := by decide +kernel
theorem dX4_gives_25 : decode cX4_gives 25 = .ok (.istore 4, 2) := by decide +kernel
theorem dX4_gives_27 : decode cX4_gives 27 = .ok (.iload 4, 2) := by decide +kernel
theorem dX4_gives_29 : decode cX4_gives 29 = .ok (.bipush 9, 2) := by decide +kernel
theorem dX4_gives_31 : decode cX4_gives 31 = .ok (.if_icmp .ge 23, 3) := by decide +kernel
theorem dX4_gives_34 : decode cX4_gives 34 = .ok (.aload_n 0, 1) := by decide +kernel
theorem dX4_gives_35 : decode cX4_gives 35 = .ok (.getfield 37, 3) := by decide +kernel
theorem dX4_gives_38 : decode cX4_gives 38 = .ok (.iload 4, 2) := by decide +kernel
theorem dX4_gives_40 : decode cX4_gives 40 = .ok (.aload_n 0, 1) := by decide +kernel
theorem dX4_gives_41 : decode cX4_gives 41 = .ok (.getfield 34, 3) := by decide +kernel
theorem dX4_gives_44 : decode cX4_gives 44 = .ok (.iload 4, 2) := by decide +kernel
theorem dX4_gives_46 : decode cX4_gives 46 = .ok (.iaload, 1) := by decide +kernel
theorem dX4_gives_47 : decode cX4_gives 47 = .ok (.iastore, 1) := by decide +kernel
theorem dX4_gives_48 : decode cX4_gives 48 = .ok (.iinc 4 1, 3) := by decide +kernel
theorem dX4_gives_51 : decode cX4_gives 51 = .ok (.goto (-24), 3) := by decide +kernel
theorem dX4_gives_54 : decode cX4_gives 54 = .ok (.return_, 1) := by decide +kernel
theorem dX4_gives_55 : decode cX4_gives 55 = .ok (.iconst 0, 1) := by decide +kernel
theorem dX4_gives_56 : decode cX4_gives 56 = .ok (.istore 4, 2) := by decide +kernel
theorem dX4_gives_58 : decode cX4_gives 58 = .ok (.iload 4, 2) := by decide +kernel
theorem dX4_gives_60 : decode cX4_gives 60 = .ok (.aload_n 0, 1) := by decide +kernel
theorem dX4_gives_61 : decode cX4_gives 61 = .ok (.getfield 9, 3) := by decide +kernel
theorem dX4_gives_64 : decode cX4_gives 64 = .ok (.iconst 0, 1) := by decide +kernel
theorem dX4_gives_65 : decode cX4_gives 65 = .ok (.iaload, 1) := by decide +kernel
theorem dX4_gives_66 : decode cX4_gives 66 = .ok (.if_icmp .ge 58, 3) := by decide +kernel
theorem dX4_gives_69 : decode cX4_gives 69 = .ok (.iload_n 2, 1) := by decide +kernel
theorem dX4_gives_70 : decode cX4_gives 70 = .ok (.iload 4, 2) := by decide +kernel
theorem dX4_gives_72 : decode cX4_gives 72 = .ok (.invokestatic 173, 3) := by decide +kernel
theorem dX4_gives_75 : decode cX4_gives 75 = .ok (.ifCond .ne 43, 3) := by decide +kernel
theorem dX4_gives_78 : decode cX4_gives 78 = .ok (.aload_n 0, 1) := by decide +kernel
theorem dX4_gives_79 : decode cX4_gives 79 = .ok (.getfield 9, 3) := by decide +kernel
theorem dX4_gives_82 : decode cX4_gives 82 = .ok (.iload 4, 2) := by decide +kernel
theorem dX4_gives_84 : decode cX4_gives 84 = .ok (.iload_n 1, 1) := by decide +kernel
theorem dX4_gives_85 : decode cX4_gives 85 = .ok (.invokestatic 69, 3) := by decide +kernel
theorem dX4_gives_88 : decode cX4_gives 88 = .ok (.ifCond .ne 6, 3) := by decide +kernel
theorem dX4_gives_91 : decode cX4_gives 91 = .ok (.goto 27, 3) := by decide +kernel
theorem dX4_gives_94 : decode cX4_gives 94 = .ok (.aload_n 0, 1) := by decide +kernel
theorem dX4_gives_95 : decode cX4_gives 95 = .ok (.getfield 34, 3) := by decide +kernel
theorem dX4_gives_98 : decode cX4_gives 98 = .ok (.iload_n 1, 1) := by decide +kernel
theorem dX4_gives_99 : decode cX4_gives 99 = .ok (.iload 4, 2) := by decide +kernel
theorem dX4_gives_101 : decode cX4_gives 101 = .ok (.iastore, 1) := by decide +kernel
theorem dX4_gives_102 : decode cX4_gives 102 = .ok (.aload_n 0, 1) := by decide +kernel
theorem dX4_gives_103 : decode cX4_gives 103 = .ok (.iload_n 1, 1) := by decide +kernel
theorem dX4_gives_104 : decode cX4_gives 104 = .ok (.iconst 1, 1) := by decide +kernel
theorem dX4_gives_105 : decode cX4_gives 105 = .ok (.iadd, 1) := by decide +kernel
theorem dX4_gives_106 : decode cX4_gives 106 = .ok (.iload_n 2, 1) := by decide +kernel
theorem dX4_gives_107 : decode cX4_gives 107 = .ok (.iconst 1, 1) := by decide +kernel
theorem dX4_gives_108 : decode cX4_gives 108 = .ok (.iload 4, 2) := by decide +kernel
theorem dX4_gives_110 : decode cX4_gives 110 = .ok (.ishl, 1) := by decide +kernel
theorem dX4_gives_111 : decode cX4_gives 111 = .ok (.ior, 1) := by decide +kernel
theorem dX4_gives_112 : decode cX4_gives 112 = .ok (.iload_n 3, 1) := by decide +kernel
theorem dX4_gives_113 : decode cX4_gives 113 = .ok (.iconst 1, 1) := by decide +kernel
theorem dX4_gives_114 : decode cX4_gives 114 = .ok (.iadd, 1) := by decide +kernel
theorem dX4_gives_115 : decode cX4_gives 115 = .ok (.invokevirtual 176, 3) := by decide +kernel
theorem dX4_gives_118 : decode cX4_gives 118 = .ok (.iinc 4 1, 3) := by decide +kernel
theorem dX4_gives_121 : decode cX4_gives 121 = .ok (.goto (-63), 3) := by decide +kernel
theorem dX4_gives_124 : decode cX4_gives 124 = .ok (.aload_n 0, 1) := by decide +kernel
theorem dX4_gives_125 : decode cX4_gives 125 = .ok (.getfield 34, 3) := by decide +kernel
theorem dX4_gives_128 : decode cX4_gives 128 = .ok (.iload_n 1, 1) := by decide +kernel
theorem dX4_gives_129 : decode cX4_gives 129 = .ok (.bipush (-9), 2) := by decide +kernel
theorem dX4_gives_131 : decode cX4_gives 131 = .ok (.iastore, 1) := by decide +kernel
theorem dX4_gives_132 : decode cX4_gives 132 = .ok (.aload_n 0, 1) := by decide +kernel
theorem dX4_gives_133 : decode cX4_gives 133 = .ok (.iload_n 1, 1) := by decide +kernel
theorem dX4_gives_134 : decode cX4_gives 134 = .ok (.iconst 1, 1) := by decide +kernel
theorem dX4_gives_135 : decode cX4_gives 135 = .ok (.iadd, 1) := by decide +kernel
theorem dX4_gives_136 : decode cX4_gives 136 = .ok (.iload_n 2, 1) := by decide +kernel
theorem dX4_gives_137 : decode cX4_gives 137 = .ok (.iload_n 3, 1) := by decide +kernel
theorem dX4_gives_138 : decode cX4_gives 138 = .ok (.invokevirtual 176, 3) := by decide +kernel
theorem dX4_gives_141 : decode cX4_gives 141 = .ok (.return_, 1) := by decide +kernel
set_option maxRecDepth 20000 in
theorem ggX4_together_X4_isThing : GoodIn wsX4_together wsX4_isThing := goodIn_r _ [7, 8, 9, 10, 6, 11, 43, 44, 45, 46, 47, 48, 49, 50, 51, 52, 53, 54, 55, 56, 57, 58] (by decide +kernel) (by decide +kernel)
set_option maxRecDepth 20000 in
theorem gX4_together_X4_isThing : GoodIn wsX4_together (wsV RX4 133 RX4 yX4_isThing wsX4_isThing) := goodIn_app (goodIn_of _ (by decide +kernel)) ggX4_together_X4_isThing
set_option maxRecDepth 20000 in
theorem ggX4_together_X4_no : GoodIn wsX4_together wsX4_no := goodIn_r _ [15, 16, 43, 44, 45, 46, 47, 48, 49, 50, 51, 52, 53, 54, 55, 56, 57, 58] (by decide +kernel) (by decide +kernel)
set_option maxRecDepth 20000 in
theorem gX4_together_X4_no : GoodIn wsX4_together (wsV RX4 41 RX4 yX4_no wsX4_no) := goodIn_app (goodIn_of _ (by decide +kernel)) ggX4_together_X4_no
set_option maxRecDepth 20000 in
theorem ggX4_together_X4_gives : GoodIn wsX4_together wsX4_gives := goodIn_r _ [20, 8, 1, 2, 21, 22, 23, 6, 24, 25, 26, 27, 28, 29, 30, 31, 32, 33, 34, 35, 36, 37, 38, 39, 40, 41, 42, 17, 18, 19, 43, 44, 45, 46, 47, 48, 49, 50, 51, 52, 53, 54, 55, 56, 57, 58] (by decide +kernel) (by decide +kernel)
set_option maxRecDepth 20000 in
theorem gX4_together_X4_gives : GoodIn wsX4_together (wsV RX4 176 RX4 yX4_gives wsX4_gives) := goodIn_app (goodIn_of _ (by decide +kernel)) ggX4_together_X4_gives
theorem dX4_together_0 : decode cX4_together 0 = .ok (.iload_n 1, 1) := by decide +kernel
theorem dX4_together_1 : decode cX4_together 1 = .ok (.iconst (-1), 1) := by decide +kernel
theorem dX4_together_2 : decode cX4_together 2 = .ok (.if_icmp .eq 17, 3) := by decide +kernel
theorem dX4_together_5 : decode cX4_together 5 = .ok (.aload_n 0, 1) := by decide +kernel
theorem dX4_together_6 : decode cX4_together 6 = .ok (.iload_n 1, 1) := by decide +kernel
theorem dX4_together_7 : decode cX4_together 7 = .ok (.invokevirtual 133, 3) := by decide +kernel
theorem dX4_together_10 : decode cX4_together 10 = .ok (.ifCond .ne 9, 3) := by decide +kernel
theorem dX4_together_13 : decode cX4_together 13 = .ok (.aload_n 0, 1) := by decide +kernel
theorem dX4_together_14 : decode cX4_together 14 = .ok (.iconst (-1), 1) := by decide +kernel
theorem dX4_together_15 : decode cX4_together 15 = .ok (.invokevirtual 41, 3) := by decide +kernel
theorem dX4_together_18 : decode cX4_together 18 = .ok (.ireturn, 1) := by decide +kernel
theorem dX4_together_19 : decode cX4_together 19 = .ok (.aload_n 0, 1) := by decide +kernel
theorem dX4_together_20 : decode cX4_together 20 = .ok (.iconst (-1), 1) := by decide +kernel
theorem dX4_together_21 : decode cX4_together 21 = .ok (.putfield 170, 3) := by decide +kernel
theorem dX4_together_24 : decode cX4_together 24 = .ok (.aload_n 0, 1) := by decide +kernel
theorem dX4_together_25 : decode cX4_together 25 = .ok (.iconst 0, 1) := by decide +kernel
theorem dX4_together_26 : decode cX4_together 26 = .ok (.iconst 0, 1) := by decide +kernel
theorem dX4_together_27 : decode cX4_together 27 = .ok (.iconst 0, 1) := by decide +kernel
theorem dX4_together_28 : decode cX4_together 28 = .ok (.invokevirtual 176, 3) := by decide +kernel
theorem dX4_together_31 : decode cX4_together 31 = .ok (.iload_n 1, 1) := by decide +kernel
theorem dX4_together_32 : decode cX4_together 32 = .ok (.ifCond .ge 10, 3) := by decide +kernel
theorem dX4_together_35 : decode cX4_together 35 = .ok (.aload_n 0, 1) := by decide +kernel
theorem dX4_together_36 : decode cX4_together 36 = .ok (.getfield 170, 3) := by decide +kernel
theorem dX4_together_39 : decode cX4_together 39 = .ok (.goto 9, 3) := by decide +kernel
theorem dX4_together_42 : decode cX4_together 42 = .ok (.aload_n 0, 1) := by decide +kernel
theorem dX4_together_43 : decode cX4_together 43 = .ok (.getfield 37, 3) := by decide +kernel
theorem dX4_together_46 : decode cX4_together 46 = .ok (.iload_n 1, 1) := by decide +kernel
theorem dX4_together_47 : decode cX4_together 47 = .ok (.iaload, 1) := by decide +kernel
theorem dX4_together_48 : decode cX4_together 48 = .ok (.ireturn, 1) := by decide +kernel
set_option maxRecDepth 20000 in
theorem ggX4_lost_X4_isWhole : GoodIn wsX4_lost wsX4_isWhole := goodIn_r _ [5, 6, 7, 4, 8] (by decide +kernel) (by decide +kernel)
set_option maxRecDepth 20000 in
theorem gX4_lost_X4_isWhole : GoodIn wsX4_lost (va_wsS RX4 72 yX4_isWhole wsX4_isWhole) := goodIn_app (goodIn_of _ (by decide +kernel)) ggX4_lost_X4_isWhole
set_option maxRecDepth 20000 in
theorem ggX4_lost_X4_mayMend : GoodIn wsX4_lost wsX4_mayMend := goodIn_r _ [11, 6, 7, 4, 8, 12, 13, 14, 15, 16, 17, 18, 19, 20, 21, 22, 23] (by decide +kernel) (by decide +kernel)
set_option maxRecDepth 20000 in
theorem gX4_lost_X4_mayMend : GoodIn wsX4_lost (va_wsS RX4 69 yX4_mayMend wsX4_mayMend) := goodIn_app (goodIn_of _ (by decide +kernel)) ggX4_lost_X4_mayMend
theorem dX4_lost_0 : decode cX4_lost 0 = .ok (.iconst 0, 1) := by decide +kernel
theorem dX4_lost_1 : decode cX4_lost 1 = .ok (.istore_n 1, 1) := by decide +kernel
theorem dX4_lost_2 : decode cX4_lost 2 = .ok (.iconst 0, 1) := by decide +kernel
theorem dX4_lost_3 : decode cX4_lost 3 = .ok (.istore_n 2, 1) := by decide +kernel
theorem dX4_lost_4 : decode cX4_lost 4 = .ok (.iload_n 2, 1) := by decide +kernel
theorem dX4_lost_5 : decode cX4_lost 5 = .ok (.aload_n 0, 1) := by decide +kernel
theorem dX4_lost_6 : decode cX4_lost 6 = .ok (.getfield 9, 3) := by decide +kernel
theorem dX4_lost_9 : decode cX4_lost 9 = .ok (.iconst 1, 1) := by decide +kernel
theorem dX4_lost_10 : decode cX4_lost 10 = .ok (.iaload, 1) := by decide +kernel
theorem dX4_lost_11 : decode cX4_lost 11 = .ok (.if_icmp .ge 81, 3) := by decide +kernel
theorem dX4_lost_14 : decode cX4_lost 14 = .ok (.aload_n 0, 1) := by decide +kernel
theorem dX4_lost_15 : decode cX4_lost 15 = .ok (.getfield 9, 3) := by decide +kernel
theorem dX4_lost_18 : decode cX4_lost 18 = .ok (.iload_n 2, 1) := by decide +kernel
theorem dX4_lost_19 : decode cX4_lost 19 = .ok (.invokestatic 72, 3) := by decide +kernel
theorem dX4_lost_22 : decode cX4_lost 22 = .ok (.ifCond .ne 7, 3) := by decide +kernel
theorem dX4_lost_25 : decode cX4_lost 25 = .ok (.iconst 1, 1) := by decide +kernel
theorem dX4_lost_26 : decode cX4_lost 26 = .ok (.goto 4, 3) := by decide +kernel
theorem dX4_lost_29 : decode cX4_lost 29 = .ok (.iconst 0, 1) := by decide +kernel
theorem dX4_lost_30 : decode cX4_lost 30 = .ok (.istore_n 3, 1) := by decide +kernel
theorem dX4_lost_31 : decode cX4_lost 31 = .ok (.iconst 0, 1) := by decide +kernel
theorem dX4_lost_32 : decode cX4_lost 32 = .ok (.istore 4, 2) := by decide +kernel
theorem dX4_lost_34 : decode cX4_lost 34 = .ok (.iload 4, 2) := by decide +kernel
theorem dX4_lost_36 : decode cX4_lost 36 = .ok (.aload_n 0, 1) := by decide +kernel
theorem dX4_lost_37 : decode cX4_lost 37 = .ok (.getfield 9, 3) := by decide +kernel
theorem dX4_lost_40 : decode cX4_lost 40 = .ok (.iconst 0, 1) := by decide +kernel
theorem dX4_lost_41 : decode cX4_lost 41 = .ok (.iaload, 1) := by decide +kernel
theorem dX4_lost_42 : decode cX4_lost 42 = .ok (.if_icmp .ge 30, 3) := by decide +kernel
theorem dX4_lost_45 : decode cX4_lost 45 = .ok (.iload_n 3, 1) := by decide +kernel
theorem dX4_lost_46 : decode cX4_lost 46 = .ok (.aload_n 0, 1) := by decide +kernel
theorem dX4_lost_47 : decode cX4_lost 47 = .ok (.getfield 9, 3) := by decide +kernel
theorem dX4_lost_50 : decode cX4_lost 50 = .ok (.iload 4, 2) := by decide +kernel
theorem dX4_lost_52 : decode cX4_lost 52 = .ok (.iload_n 2, 1) := by decide +kernel
theorem dX4_lost_53 : decode cX4_lost 53 = .ok (.invokestatic 69, 3) := by decide +kernel
theorem dX4_lost_56 : decode cX4_lost 56 = .ok (.ifCond .ne 7, 3) := by decide +kernel
theorem dX4_lost_59 : decode cX4_lost 59 = .ok (.iconst 1, 1) := by decide +kernel
theorem dX4_lost_60 : decode cX4_lost 60 = .ok (.goto 4, 3) := by decide +kernel
theorem dX4_lost_63 : decode cX4_lost 63 = .ok (.iconst 0, 1) := by decide +kernel
theorem dX4_lost_64 : decode cX4_lost 64 = .ok (.iand, 1) := by decide +kernel
theorem dX4_lost_65 : decode cX4_lost 65 = .ok (.istore_n 3, 1) := by decide +kernel
theorem dX4_lost_66 : decode cX4_lost 66 = .ok (.iinc 4 1, 3) := by decide +kernel
theorem dX4_lost_69 : decode cX4_lost 69 = .ok (.goto (-35), 3) := by decide +kernel
theorem dX4_lost_72 : decode cX4_lost 72 = .ok (.iload_n 1, 1) := by decide +kernel
theorem dX4_lost_73 : decode cX4_lost 73 = .ok (.iload_n 3, 1) := by decide +kernel
theorem dX4_lost_74 : decode cX4_lost 74 = .ok (.ifCond .eq 9, 3) := by decide +kernel
theorem dX4_lost_77 : decode cX4_lost 77 = .ok (.iconst 1, 1) := by decide +kernel
theorem dX4_lost_78 : decode cX4_lost 78 = .ok (.iload_n 2, 1) := by decide +kernel
theorem dX4_lost_79 : decode cX4_lost 79 = .ok (.ishl, 1) := by decide +kernel
theorem dX4_lost_80 : decode cX4_lost 80 = .ok (.goto 4, 3) := by decide +kernel
theorem dX4_lost_83 : decode cX4_lost 83 = .ok (.iconst 0, 1) := by decide +kernel
theorem dX4_lost_84 : decode cX4_lost 84 = .ok (.ior, 1) := by decide +kernel
theorem dX4_lost_85 : decode cX4_lost 85 = .ok (.istore_n 1, 1) := by decide +kernel
theorem dX4_lost_86 : decode cX4_lost 86 = .ok (.iinc 2 1, 3) := by decide +kernel
theorem dX4_lost_89 : decode cX4_lost 89 = .ok (.goto (-85), 3) := by decide +kernel
theorem dX4_lost_92 : decode cX4_lost 92 = .ok (.iload_n 1, 1) := by decide +kernel
theorem dX4_lost_93 : decode cX4_lost 93 = .ok (.ireturn, 1) := by decide +kernel
set_option maxRecDepth 20000 in
theorem ggX4_breaker_X4_wrongBreak : GoodIn wsX4_breaker wsX4_wrongBreak := goodIn_r _ [8, 2, 9, 10, 11, 7, 12, 13, 14, 15, 16, 17, 18, 19, 20, 21, 64, 65, 66, 67, 68, 69, 70, 71, 72, 73, 74, 75, 76, 77, 78, 79] (by decide +kernel) (by decide +kernel)
set_option maxRecDepth 20000 in
theorem gX4_breaker_X4_wrongBreak : GoodIn wsX4_breaker (wsV RX4 146 RX4 yX4_wrongBreak wsX4_wrongBreak) := goodIn_app (goodIn_of _ (by decide +kernel)) ggX4_breaker_X4_wrongBreak
set_option maxRecDepth 20000 in
theorem ggX4_breaker_X4_no : GoodIn wsX4_breaker wsX4_no := goodIn_r _ [25, 26, 64, 65, 66, 67, 68, 69, 70, 71, 72, 73, 74, 75, 76, 77, 78, 79] (by decide +kernel) (by decide +kernel)
set_option maxRecDepth 20000 in
theorem gX4_breaker_X4_no : GoodIn wsX4_breaker (wsV RX4 41 RX4 yX4_no wsX4_no) := goodIn_app (goodIn_of _ (by decide +kernel)) ggX4_breaker_X4_no
set_option maxRecDepth 20000 in
theorem ggX4_breaker_X4_copies : GoodIn wsX4_breaker wsX4_copies := goodIn_r _ [29] (by decide +kernel) (by decide +kernel)
set_option maxRecDepth 20000 in
theorem gX4_breaker_X4_copies : GoodIn wsX4_breaker (va_wsS RX4 139 yX4_copies wsX4_copies) := goodIn_app (goodIn_of _ (by decide +kernel)) ggX4_breaker_X4_copies
set_option maxRecDepth 20000 in
theorem ggX4_breaker_X4_ofT : GoodIn wsX4_breaker wsX4_ofT := goodIn_r _ [21] (by decide +kernel) (by decide +kernel)
set_option maxRecDepth 20000 in
theorem gX4_breaker_X4_ofT : GoodIn wsX4_breaker (va_wsS RX4 51 yX4_ofT wsX4_ofT) := goodIn_app (goodIn_of _ (by decide +kernel)) ggX4_breaker_X4_ofT
set_option maxRecDepth 20000 in
theorem ggX4_breaker_X4_whenIn : GoodIn wsX4_breaker wsX4_whenIn := goodIn_r _ [33, 3, 34, 35, 7, 36, 16, 17, 18, 19, 20, 21, 37, 38, 39, 40, 41, 42, 43, 44, 45, 46, 47, 48, 49, 50, 51, 52, 53, 54, 55, 56, 57, 58, 59, 60, 61, 62, 63, 64, 65, 66, 67, 68, 69, 70, 71, 72, 73, 74, 75, 76, 77, 78, 79] (by decide +kernel) (by decide +kernel)
set_option maxRecDepth 20000 in
theorem gX4_breaker_X4_whenIn : GoodIn wsX4_breaker (wsV RX4 163 RX4 yX4_whenIn wsX4_whenIn) := goodIn_app (goodIn_of _ (by decide +kernel)) ggX4_breaker_X4_whenIn
theorem dX4_breaker_0 : decode cX4_breaker 0 = .ok (.aload_n 0, 1) := by decide +kernel
theorem dX4_breaker_1 : decode cX4_breaker 1 = .ok (.iload_n 1, 1) := by decide +kernel
theorem dX4_breaker_2 : decode cX4_breaker 2 = .ok (.iconst 1, 1) := by decide +kernel
theorem dX4_breaker_3 : decode cX4_breaker 3 = .ok (.invokevirtual 146, 3) := by decide +kernel
theorem dX4_breaker_6 : decode cX4_breaker 6 = .ok (.istore_n 2, 1) := by decide +kernel
theorem dX4_breaker_7 : decode cX4_breaker 7 = .ok (.iload_n 2, 1) := by decide +kernel
theorem dX4_breaker_8 : decode cX4_breaker 8 = .ok (.ifCond .eq 9, 3) := by decide +kernel
theorem dX4_breaker_11 : decode cX4_breaker 11 = .ok (.aload_n 0, 1) := by decide +kernel
theorem dX4_breaker_12 : decode cX4_breaker 12 = .ok (.iload_n 2, 1) := by decide +kernel
theorem dX4_breaker_13 : decode cX4_breaker 13 = .ok (.invokevirtual 41, 3) := by decide +kernel
theorem dX4_breaker_16 : decode cX4_breaker 16 = .ok (.ireturn, 1) := by decide +kernel
theorem dX4_breaker_17 : decode cX4_breaker 17 = .ok (.bipush (-9), 2) := by decide +kernel
theorem dX4_breaker_19 : decode cX4_breaker 19 = .ok (.istore_n 3, 1) := by decide +kernel
theorem dX4_breaker_20 : decode cX4_breaker 20 = .ok (.ldc 40, 2) := by decide +kernel
theorem dX4_breaker_22 : decode cX4_breaker 22 = .ok (.istore 4, 2) := by decide +kernel
theorem dX4_breaker_24 : decode cX4_breaker 24 = .ok (.iconst 0, 1) := by decide +kernel
theorem dX4_breaker_25 : decode cX4_breaker 25 = .ok (.istore 5, 2) := by decide +kernel
theorem dX4_breaker_27 : decode cX4_breaker 27 = .ok (.iload 5, 2) := by decide +kernel
theorem dX4_breaker_29 : decode cX4_breaker 29 = .ok (.aload_n 0, 1) := by decide +kernel
theorem dX4_breaker_30 : decode cX4_breaker 30 = .ok (.getfield 9, 3) := by decide +kernel
theorem dX4_breaker_33 : decode cX4_breaker 33 = .ok (.iconst 0, 1) := by decide +kernel
theorem dX4_breaker_34 : decode cX4_breaker 34 = .ok (.iaload, 1) := by decide +kernel
theorem dX4_breaker_35 : decode cX4_breaker 35 = .ok (.if_icmp .ge 66, 3) := by decide +kernel
theorem dX4_breaker_38 : decode cX4_breaker 38 = .ok (.aload_n 0, 1) := by decide +kernel
theorem dX4_breaker_39 : decode cX4_breaker 39 = .ok (.getfield 9, 3) := by decide +kernel
theorem dX4_breaker_42 : decode cX4_breaker 42 = .ok (.aload_n 0, 1) := by decide +kernel
theorem dX4_breaker_43 : decode cX4_breaker 43 = .ok (.getfield 13, 3) := by decide +kernel
theorem dX4_breaker_46 : decode cX4_breaker 46 = .ok (.invokestatic 139, 3) := by decide +kernel
theorem dX4_breaker_49 : decode cX4_breaker 49 = .ok (.aload_n 0, 1) := by decide +kernel
theorem dX4_breaker_50 : decode cX4_breaker 50 = .ok (.getfield 13, 3) := by decide +kernel
theorem dX4_breaker_53 : decode cX4_breaker 53 = .ok (.iload_n 1, 1) := by decide +kernel
theorem dX4_breaker_54 : decode cX4_breaker 54 = .ok (.invokestatic 51, 3) := by decide +kernel
theorem dX4_breaker_57 : decode cX4_breaker 57 = .ok (.iconst 4, 1) := by decide +kernel
theorem dX4_breaker_58 : decode cX4_breaker 58 = .ok (.iadd, 1) := by decide +kernel
theorem dX4_breaker_59 : decode cX4_breaker 59 = .ok (.iload 5, 2) := by decide +kernel
theorem dX4_breaker_61 : decode cX4_breaker 61 = .ok (.iastore, 1) := by decide +kernel
theorem dX4_breaker_62 : decode cX4_breaker 62 = .ok (.aload_n 0, 1) := by decide +kernel
theorem dX4_breaker_63 : decode cX4_breaker 63 = .ok (.iconst 1, 1) := by decide +kernel
theorem dX4_breaker_64 : decode cX4_breaker 64 = .ok (.iload_n 1, 1) := by decide +kernel
theorem dX4_breaker_65 : decode cX4_breaker 65 = .ok (.ishl, 1) := by decide +kernel
theorem dX4_breaker_66 : decode cX4_breaker 66 = .ok (.iconst 1, 1) := by decide +kernel
theorem dX4_breaker_67 : decode cX4_breaker 67 = .ok (.iconst 1, 1) := by decide +kernel
theorem dX4_breaker_68 : decode cX4_breaker 68 = .ok (.invokevirtual 163, 3) := by decide +kernel
theorem dX4_breaker_71 : decode cX4_breaker 71 = .ok (.istore 6, 2) := by decide +kernel
theorem dX4_breaker_73 : decode cX4_breaker 73 = .ok (.iload 6, 2) := by decide +kernel
theorem dX4_breaker_75 : decode cX4_breaker 75 = .ok (.ifCond .lt 20, 3) := by decide +kernel
theorem dX4_breaker_78 : decode cX4_breaker 78 = .ok (.iload 6, 2) := by decide +kernel
theorem dX4_breaker_80 : decode cX4_breaker 80 = .ok (.iload 4, 2) := by decide +kernel
theorem dX4_breaker_82 : decode cX4_breaker 82 = .ok (.if_icmp .lt 6, 3) := by decide +kernel
theorem dX4_breaker_85 : decode cX4_breaker 85 = .ok (.goto 10, 3) := by decide +kernel
theorem dX4_breaker_88 : decode cX4_breaker 88 = .ok (.iload 5, 2) := by decide +kernel
theorem dX4_breaker_90 : decode cX4_breaker 90 = .ok (.istore_n 3, 1) := by decide +kernel
theorem dX4_breaker_91 : decode cX4_breaker 91 = .ok (.iload 6, 2) := by decide +kernel
theorem dX4_breaker_93 : decode cX4_breaker 93 = .ok (.istore 4, 2) := by decide +kernel
theorem dX4_breaker_95 : decode cX4_breaker 95 = .ok (.iinc 5 1, 3) := by decide +kernel
theorem dX4_breaker_98 : decode cX4_breaker 98 = .ok (.goto (-71), 3) := by decide +kernel
theorem dX4_breaker_101 : decode cX4_breaker 101 = .ok (.iload_n 3, 1) := by decide +kernel
theorem dX4_breaker_102 : decode cX4_breaker 102 = .ok (.ireturn, 1) := by decide +kernel
set_option maxRecDepth 20000 in
theorem ggX4_bestSays_X4_wrongBy : GoodIn wsX4_bestSays wsX4_wrongBy := goodIn_r _ [6] (by decide +kernel) (by decide +kernel)
set_option maxRecDepth 20000 in
theorem gX4_bestSays_X4_wrongBy : GoodIn wsX4_bestSays (va_wsS RX4 153 yX4_wrongBy wsX4_wrongBy) := goodIn_app (goodIn_of _ (by decide +kernel)) ggX4_bestSays_X4_wrongBy
set_option maxRecDepth 20000 in
theorem ggX4_bestSays_X4_no : GoodIn wsX4_bestSays wsX4_no := goodIn_r _ [10, 11, 61, 62, 63, 64, 65, 66, 67, 68, 69, 70, 71, 72, 73, 74, 75, 76] (by decide +kernel) (by decide +kernel)
set_option maxRecDepth 20000 in
theorem gX4_bestSays_X4_no : GoodIn wsX4_bestSays (wsV RX4 41 RX4 yX4_no wsX4_no) := goodIn_app (goodIn_of _ (by decide +kernel)) ggX4_bestSays_X4_no
set_option maxRecDepth 20000 in
theorem ggX4_bestSays_X4_copies : GoodIn wsX4_bestSays wsX4_copies := goodIn_r _ [14] (by decide +kernel) (by decide +kernel)
set_option maxRecDepth 20000 in
theorem gX4_bestSays_X4_copies : GoodIn wsX4_bestSays (va_wsS RX4 139 yX4_copies wsX4_copies) := goodIn_app (goodIn_of _ (by decide +kernel)) ggX4_bestSays_X4_copies
set_option maxRecDepth 20000 in
theorem ggX4_bestSays_X4_wholeBehind : GoodIn wsX4_bestSays wsX4_wholeBehind := goodIn_r _ [18, 2, 19, 20, 5, 21, 22, 23, 24, 25, 26, 27, 28, 29, 30, 31, 32, 33, 34, 35, 36, 37, 38, 39, 40, 41, 42, 43, 44, 45, 46, 47, 48, 49, 50, 51, 52, 53, 54, 55, 56, 57, 58, 59, 60, 61, 62, 63, 64, 65, 66, 67, 68, 69, 70, 71, 72, 73, 74, 75, 76] (by decide +kernel) (by decide +kernel)
set_option maxRecDepth 20000 in
theorem gX4_bestSays_X4_wholeBehind : GoodIn wsX4_bestSays (wsV RX4 180 RX4 yX4_wholeBehind wsX4_wholeBehind) := goodIn_app (goodIn_of _ (by decide +kernel)) ggX4_bestSays_X4_wholeBehind
set_option maxRecDepth 20000 in
theorem ggX4_bestSays_X4_ofT : GoodIn wsX4_bestSays wsX4_ofT := goodIn_r _ [30] (by decide +kernel) (by decide +kernel)
set_option maxRecDepth 20000 in
theorem gX4_bestSays_X4_ofT : GoodIn wsX4_bestSays (va_wsS RX4 51 yX4_ofT wsX4_ofT) := goodIn_app (goodIn_of _ (by decide +kernel)) ggX4_bestSays_X4_ofT
theorem dX4_bestSays_0 : decode cX4_bestSays 0 = .ok (.iload_n 1, 1) := by decide +kernel
theorem dX4_bestSays_1 : decode cX4_bestSays 1 = .ok (.bipush 99, 2) := by decide +kernel
theorem dX4_bestSays_3 : decode cX4_bestSays 3 = .ok (.invokestatic 153, 3) := by decide +kernel
theorem dX4_bestSays_6 : decode cX4_bestSays 6 = .ok (.istore_n 2, 1) := by decide +kernel
theorem dX4_bestSays_7 : decode cX4_bestSays 7 = .ok (.iload_n 2, 1) := by decide +kernel
theorem dX4_bestSays_8 : decode cX4_bestSays 8 = .ok (.ifCond .eq 9, 3) := by decide +kernel
theorem dX4_bestSays_11 : decode cX4_bestSays 11 = .ok (.aload_n 0, 1) := by decide +kernel
theorem dX4_bestSays_12 : decode cX4_bestSays 12 = .ok (.iload_n 2, 1) := by decide +kernel
theorem dX4_bestSays_13 : decode cX4_bestSays 13 = .ok (.invokevirtual 41, 3) := by decide +kernel
theorem dX4_bestSays_16 : decode cX4_bestSays 16 = .ok (.ireturn, 1) := by decide +kernel
theorem dX4_bestSays_17 : decode cX4_bestSays 17 = .ok (.aload_n 0, 1) := by decide +kernel
theorem dX4_bestSays_18 : decode cX4_bestSays 18 = .ok (.getfield 9, 3) := by decide +kernel
theorem dX4_bestSays_21 : decode cX4_bestSays 21 = .ok (.aload_n 0, 1) := by decide +kernel
theorem dX4_bestSays_22 : decode cX4_bestSays 22 = .ok (.getfield 13, 3) := by decide +kernel
theorem dX4_bestSays_25 : decode cX4_bestSays 25 = .ok (.invokestatic 139, 3) := by decide +kernel
theorem dX4_bestSays_28 : decode cX4_bestSays 28 = .ok (.aload_n 0, 1) := by decide +kernel
theorem dX4_bestSays_29 : decode cX4_bestSays 29 = .ok (.iload_n 1, 1) := by decide +kernel
theorem dX4_bestSays_30 : decode cX4_bestSays 30 = .ok (.invokevirtual 180, 3) := by decide +kernel
theorem dX4_bestSays_33 : decode cX4_bestSays 33 = .ok (.istore_n 3, 1) := by decide +kernel
theorem dX4_bestSays_34 : decode cX4_bestSays 34 = .ok (.bipush (-9), 2) := by decide +kernel
theorem dX4_bestSays_36 : decode cX4_bestSays 36 = .ok (.istore 4, 2) := by decide +kernel
theorem dX4_bestSays_38 : decode cX4_bestSays 38 = .ok (.iconst 0, 1) := by decide +kernel
theorem dX4_bestSays_39 : decode cX4_bestSays 39 = .ok (.istore 5, 2) := by decide +kernel
theorem dX4_bestSays_41 : decode cX4_bestSays 41 = .ok (.iload 5, 2) := by decide +kernel
theorem dX4_bestSays_43 : decode cX4_bestSays 43 = .ok (.aload_n 0, 1) := by decide +kernel
theorem dX4_bestSays_44 : decode cX4_bestSays 44 = .ok (.getfield 9, 3) := by decide +kernel
theorem dX4_bestSays_47 : decode cX4_bestSays 47 = .ok (.iconst 1, 1) := by decide +kernel
theorem dX4_bestSays_48 : decode cX4_bestSays 48 = .ok (.iaload, 1) := by decide +kernel
theorem dX4_bestSays_49 : decode cX4_bestSays 49 = .ok (.if_icmp .ge 100, 3) := by decide +kernel
theorem dX4_bestSays_52 : decode cX4_bestSays 52 = .ok (.iconst 0, 1) := by decide +kernel
theorem dX4_bestSays_53 : decode cX4_bestSays 53 = .ok (.istore 6, 2) := by decide +kernel
theorem dX4_bestSays_55 : decode cX4_bestSays 55 = .ok (.iload 6, 2) := by decide +kernel
theorem dX4_bestSays_57 : decode cX4_bestSays 57 = .ok (.aload_n 0, 1) := by decide +kernel
theorem dX4_bestSays_58 : decode cX4_bestSays 58 = .ok (.getfield 9, 3) := by decide +kernel
theorem dX4_bestSays_61 : decode cX4_bestSays 61 = .ok (.iconst 0, 1) := by decide +kernel
theorem dX4_bestSays_62 : decode cX4_bestSays 62 = .ok (.iaload, 1) := by decide +kernel
theorem dX4_bestSays_63 : decode cX4_bestSays 63 = .ok (.if_icmp .ge 80, 3) := by decide +kernel
theorem dX4_bestSays_66 : decode cX4_bestSays 66 = .ok (.aload_n 0, 1) := by decide +kernel
theorem dX4_bestSays_67 : decode cX4_bestSays 67 = .ok (.getfield 9, 3) := by decide +kernel
theorem dX4_bestSays_70 : decode cX4_bestSays 70 = .ok (.iload 5, 2) := by decide +kernel
theorem dX4_bestSays_72 : decode cX4_bestSays 72 = .ok (.invokestatic 51, 3) := by decide +kernel
theorem dX4_bestSays_75 : decode cX4_bestSays 75 = .ok (.iconst 4, 1) := by decide +kernel
theorem dX4_bestSays_76 : decode cX4_bestSays 76 = .ok (.iadd, 1) := by decide +kernel
theorem dX4_bestSays_77 : decode cX4_bestSays 77 = .ok (.iaload, 1) := by decide +kernel
theorem dX4_bestSays_78 : decode cX4_bestSays 78 = .ok (.bipush (-8), 2) := by decide +kernel
theorem dX4_bestSays_80 : decode cX4_bestSays 80 = .ok (.if_icmp .ne 63, 3) := by decide +kernel
theorem dX4_bestSays_83 : decode cX4_bestSays 83 = .ok (.aload_n 0, 1) := by decide +kernel
theorem dX4_bestSays_84 : decode cX4_bestSays 84 = .ok (.getfield 9, 3) := by decide +kernel
theorem dX4_bestSays_87 : decode cX4_bestSays 87 = .ok (.aload_n 0, 1) := by decide +kernel
theorem dX4_bestSays_88 : decode cX4_bestSays 88 = .ok (.getfield 13, 3) := by decide +kernel
theorem dX4_bestSays_91 : decode cX4_bestSays 91 = .ok (.invokestatic 139, 3) := by decide +kernel
theorem dX4_bestSays_94 : decode cX4_bestSays 94 = .ok (.aload_n 0, 1) := by decide +kernel
theorem dX4_bestSays_95 : decode cX4_bestSays 95 = .ok (.getfield 13, 3) := by decide +kernel
theorem dX4_bestSays_98 : decode cX4_bestSays 98 = .ok (.iload 5, 2) := by decide +kernel
theorem dX4_bestSays_100 : decode cX4_bestSays 100 = .ok (.invokestatic 51, 3) := by decide +kernel
theorem dX4_bestSays_103 : decode cX4_bestSays 103 = .ok (.iconst 4, 1) := by decide +kernel
theorem dX4_bestSays_104 : decode cX4_bestSays 104 = .ok (.iadd, 1) := by decide +kernel
theorem dX4_bestSays_105 : decode cX4_bestSays 105 = .ok (.iload 6, 2) := by decide +kernel
theorem dX4_bestSays_107 : decode cX4_bestSays 107 = .ok (.iastore, 1) := by decide +kernel
theorem dX4_bestSays_108 : decode cX4_bestSays 108 = .ok (.aload_n 0, 1) := by decide +kernel
theorem dX4_bestSays_109 : decode cX4_bestSays 109 = .ok (.iload_n 1, 1) := by decide +kernel
theorem dX4_bestSays_110 : decode cX4_bestSays 110 = .ok (.invokevirtual 180, 3) := by decide +kernel
theorem dX4_bestSays_113 : decode cX4_bestSays 113 = .ok (.istore 7, 2) := by decide +kernel
theorem dX4_bestSays_115 : decode cX4_bestSays 115 = .ok (.iload 7, 2) := by decide +kernel
theorem dX4_bestSays_117 : decode cX4_bestSays 117 = .ok (.iload_n 3, 1) := by decide +kernel
theorem dX4_bestSays_118 : decode cX4_bestSays 118 = .ok (.if_icmp .gt 6, 3) := by decide +kernel
theorem dX4_bestSays_121 : decode cX4_bestSays 121 = .ok (.goto 16, 3) := by decide +kernel
theorem dX4_bestSays_124 : decode cX4_bestSays 124 = .ok (.bipush 10, 2) := by decide +kernel
theorem dX4_bestSays_126 : decode cX4_bestSays 126 = .ok (.iload 5, 2) := by decide +kernel
theorem dX4_bestSays_128 : decode cX4_bestSays 128 = .ok (.imul, 1) := by decide +kernel
theorem dX4_bestSays_129 : decode cX4_bestSays 129 = .ok (.iload 6, 2) := by decide +kernel
theorem dX4_bestSays_131 : decode cX4_bestSays 131 = .ok (.iadd, 1) := by decide +kernel
theorem dX4_bestSays_132 : decode cX4_bestSays 132 = .ok (.istore 4, 2) := by decide +kernel
theorem dX4_bestSays_134 : decode cX4_bestSays 134 = .ok (.iload 7, 2) := by decide +kernel
theorem dX4_bestSays_136 : decode cX4_bestSays 136 = .ok (.istore_n 3, 1) := by decide +kernel
theorem dX4_bestSays_137 : decode cX4_bestSays 137 = .ok (.iinc 6 1, 3) := by decide +kernel
theorem dX4_bestSays_140 : decode cX4_bestSays 140 = .ok (.goto (-85), 3) := by decide +kernel
theorem dX4_bestSays_143 : decode cX4_bestSays 143 = .ok (.iinc 5 1, 3) := by decide +kernel
theorem dX4_bestSays_146 : decode cX4_bestSays 146 = .ok (.goto (-105), 3) := by decide +kernel
theorem dX4_bestSays_149 : decode cX4_bestSays 149 = .ok (.iload 4, 2) := by decide +kernel
theorem dX4_bestSays_151 : decode cX4_bestSays 151 = .ok (.ireturn, 1) := by decide +kernel
set_option maxRecDepth 20000 in
theorem ggX4_canSay_X4_has : GoodIn wsX4_canSay wsX4_has := goodIn_r _ [5] (by decide +kernel) (by decide +kernel)
set_option maxRecDepth 20000 in
theorem gX4_canSay_X4_has : GoodIn wsX4_canSay (va_wsS RX4 173 yX4_has wsX4_has) := goodIn_app (goodIn_of _ (by decide +kernel)) ggX4_canSay_X4_has
set_option maxRecDepth 20000 in
theorem ggX4_canSay_X4_mendersOf : GoodIn wsX4_canSay wsX4_mendersOf := goodIn_r _ [9, 1, 10, 11, 4, 12, 13, 14, 15, 16, 17, 18, 19, 20, 21, 22, 23, 24, 25, 26, 27, 28, 29, 30, 31, 32, 33, 34, 35, 36, 37, 38, 39, 40] (by decide +kernel) (by decide +kernel)
set_option maxRecDepth 20000 in
theorem gX4_canSay_X4_mendersOf : GoodIn wsX4_canSay (wsV RX4 150 RX4 yX4_mendersOf wsX4_mendersOf) := goodIn_app (goodIn_of _ (by decide +kernel)) ggX4_canSay_X4_mendersOf
theorem dX4_canSay_0 : decode cX4_canSay 0 = .ok (.iconst 0, 1) := by decide +kernel
theorem dX4_canSay_1 : decode cX4_canSay 1 = .ok (.istore_n 3, 1) := by decide +kernel
theorem dX4_canSay_2 : decode cX4_canSay 2 = .ok (.iload_n 3, 1) := by decide +kernel
theorem dX4_canSay_3 : decode cX4_canSay 3 = .ok (.aload_n 0, 1) := by decide +kernel
theorem dX4_canSay_4 : decode cX4_canSay 4 = .ok (.getfield 9, 3) := by decide +kernel
theorem dX4_canSay_7 : decode cX4_canSay 7 = .ok (.iconst 0, 1) := by decide +kernel
theorem dX4_canSay_8 : decode cX4_canSay 8 = .ok (.iaload, 1) := by decide +kernel
theorem dX4_canSay_9 : decode cX4_canSay 9 = .ok (.if_icmp .ge 33, 3) := by decide +kernel
theorem dX4_canSay_12 : decode cX4_canSay 12 = .ok (.iload_n 1, 1) := by decide +kernel
theorem dX4_canSay_13 : decode cX4_canSay 13 = .ok (.iload_n 3, 1) := by decide +kernel
theorem dX4_canSay_14 : decode cX4_canSay 14 = .ok (.invokestatic 173, 3) := by decide +kernel
theorem dX4_canSay_17 : decode cX4_canSay 17 = .ok (.ifCond .eq 19, 3) := by decide +kernel
theorem dX4_canSay_20 : decode cX4_canSay 20 = .ok (.aload_n 0, 1) := by decide +kernel
theorem dX4_canSay_21 : decode cX4_canSay 21 = .ok (.iload_n 2, 1) := by decide +kernel
theorem dX4_canSay_22 : decode cX4_canSay 22 = .ok (.invokevirtual 150, 3) := by decide +kernel
theorem dX4_canSay_25 : decode cX4_canSay 25 = .ok (.iconst 1, 1) := by decide +kernel
theorem dX4_canSay_26 : decode cX4_canSay 26 = .ok (.iload_n 3, 1) := by decide +kernel
theorem dX4_canSay_27 : decode cX4_canSay 27 = .ok (.ishl, 1) := by decide +kernel
theorem dX4_canSay_28 : decode cX4_canSay 28 = .ok (.iconst (-1), 1) := by decide +kernel
theorem dX4_canSay_29 : decode cX4_canSay 29 = .ok (.ixor, 1) := by decide +kernel
theorem dX4_canSay_30 : decode cX4_canSay 30 = .ok (.iand, 1) := by decide +kernel
theorem dX4_canSay_31 : decode cX4_canSay 31 = .ok (.ifCond .eq 5, 3) := by decide +kernel
theorem dX4_canSay_34 : decode cX4_canSay 34 = .ok (.iconst 1, 1) := by decide +kernel
theorem dX4_canSay_35 : decode cX4_canSay 35 = .ok (.ireturn, 1) := by decide +kernel
theorem dX4_canSay_36 : decode cX4_canSay 36 = .ok (.iinc 3 1, 3) := by decide +kernel
theorem dX4_canSay_39 : decode cX4_canSay 39 = .ok (.goto (-37), 3) := by decide +kernel
theorem dX4_canSay_42 : decode cX4_canSay 42 = .ok (.iconst 0, 1) := by decide +kernel
theorem dX4_canSay_43 : decode cX4_canSay 43 = .ok (.ireturn, 1) := by decide +kernel
set_option maxRecDepth 20000 in
theorem ggX4_confessions_X4_bits : GoodIn wsX4_confessions wsX4_bits := goodIn_r _ [5] (by decide +kernel) (by decide +kernel)
set_option maxRecDepth 20000 in
theorem gX4_confessions_X4_bits : GoodIn wsX4_confessions (va_wsS RX4 98 yX4_bits wsX4_bits) := goodIn_app (goodIn_of _ (by decide +kernel)) ggX4_confessions_X4_bits
set_option maxRecDepth 20000 in
theorem ggX4_confessions_X4_ofT : GoodIn wsX4_confessions wsX4_ofT := goodIn_r _ [8] (by decide +kernel) (by decide +kernel)
set_option maxRecDepth 20000 in
theorem gX4_confessions_X4_ofT : GoodIn wsX4_confessions (va_wsS RX4 51 yX4_ofT wsX4_ofT) := goodIn_app (goodIn_of _ (by decide +kernel)) ggX4_confessions_X4_ofT
set_option maxRecDepth 20000 in
theorem ggX4_confessions_X4_canSay : GoodIn wsX4_confessions wsX4_canSay := goodIn_r _ [12, 1, 13, 14, 4, 15, 16, 17, 18, 19, 20, 21, 22, 23, 24, 25, 26, 27, 28, 6, 7, 8, 29, 30, 31, 32, 33, 34, 35, 36, 37, 38, 39, 40, 41, 42, 43, 44, 45, 46, 47] (by decide +kernel) (by decide +kernel)
set_option maxRecDepth 20000 in
theorem gX4_confessions_X4_canSay : GoodIn wsX4_confessions (wsV RX4 183 RX4 yX4_canSay wsX4_canSay) := goodIn_app (goodIn_of _ (by decide +kernel)) ggX4_confessions_X4_canSay
theorem dX4_confessions_0 : decode cX4_confessions 0 = .ok (.bipush (-9), 2) := by decide +kernel
theorem dX4_confessions_2 : decode cX4_confessions 2 = .ok (.istore_n 1, 1) := by decide +kernel
theorem dX4_confessions_3 : decode cX4_confessions 3 = .ok (.iconst 0, 1) := by decide +kernel
theorem dX4_confessions_4 : decode cX4_confessions 4 = .ok (.istore_n 2, 1) := by decide +kernel
theorem dX4_confessions_5 : decode cX4_confessions 5 = .ok (.iload_n 2, 1) := by decide +kernel
theorem dX4_confessions_6 : decode cX4_confessions 6 = .ok (.iconst 1, 1) := by decide +kernel
theorem dX4_confessions_7 : decode cX4_confessions 7 = .ok (.aload_n 0, 1) := by decide +kernel
theorem dX4_confessions_8 : decode cX4_confessions 8 = .ok (.getfield 9, 3) := by decide +kernel
theorem dX4_confessions_11 : decode cX4_confessions 11 = .ok (.iconst 0, 1) := by decide +kernel
theorem dX4_confessions_12 : decode cX4_confessions 12 = .ok (.iaload, 1) := by decide +kernel
theorem dX4_confessions_13 : decode cX4_confessions 13 = .ok (.ishl, 1) := by decide +kernel
theorem dX4_confessions_14 : decode cX4_confessions 14 = .ok (.if_icmp .ge 97, 3) := by decide +kernel
theorem dX4_confessions_17 : decode cX4_confessions 17 = .ok (.iload_n 1, 1) := by decide +kernel
theorem dX4_confessions_18 : decode cX4_confessions 18 = .ok (.ifCond .lt 14, 3) := by decide +kernel
theorem dX4_confessions_21 : decode cX4_confessions 21 = .ok (.iload_n 2, 1) := by decide +kernel
theorem dX4_confessions_22 : decode cX4_confessions 22 = .ok (.invokestatic 98, 3) := by decide +kernel
theorem dX4_confessions_25 : decode cX4_confessions 25 = .ok (.iload_n 1, 1) := by decide +kernel
theorem dX4_confessions_26 : decode cX4_confessions 26 = .ok (.invokestatic 98, 3) := by decide +kernel
theorem dX4_confessions_29 : decode cX4_confessions 29 = .ok (.if_icmp .ge 7, 3) := by decide +kernel
theorem dX4_confessions_32 : decode cX4_confessions 32 = .ok (.iconst 1, 1) := by decide +kernel
theorem dX4_confessions_33 : decode cX4_confessions 33 = .ok (.goto 4, 3) := by decide +kernel
theorem dX4_confessions_36 : decode cX4_confessions 36 = .ok (.iconst 0, 1) := by decide +kernel
theorem dX4_confessions_37 : decode cX4_confessions 37 = .ok (.istore_n 3, 1) := by decide +kernel
theorem dX4_confessions_38 : decode cX4_confessions 38 = .ok (.iconst 0, 1) := by decide +kernel
theorem dX4_confessions_39 : decode cX4_confessions 39 = .ok (.istore 4, 2) := by decide +kernel
theorem dX4_confessions_41 : decode cX4_confessions 41 = .ok (.iload 4, 2) := by decide +kernel
theorem dX4_confessions_43 : decode cX4_confessions 43 = .ok (.aload_n 0, 1) := by decide +kernel
theorem dX4_confessions_44 : decode cX4_confessions 44 = .ok (.getfield 9, 3) := by decide +kernel
theorem dX4_confessions_47 : decode cX4_confessions 47 = .ok (.iconst 1, 1) := by decide +kernel
theorem dX4_confessions_48 : decode cX4_confessions 48 = .ok (.iaload, 1) := by decide +kernel
theorem dX4_confessions_49 : decode cX4_confessions 49 = .ok (.if_icmp .ge 46, 3) := by decide +kernel
theorem dX4_confessions_52 : decode cX4_confessions 52 = .ok (.iload_n 3, 1) := by decide +kernel
theorem dX4_confessions_53 : decode cX4_confessions 53 = .ok (.ifCond .eq 42, 3) := by decide +kernel
theorem dX4_confessions_56 : decode cX4_confessions 56 = .ok (.aload_n 0, 1) := by decide +kernel
theorem dX4_confessions_57 : decode cX4_confessions 57 = .ok (.getfield 9, 3) := by decide +kernel
theorem dX4_confessions_60 : decode cX4_confessions 60 = .ok (.iload 4, 2) := by decide +kernel
theorem dX4_confessions_62 : decode cX4_confessions 62 = .ok (.invokestatic 51, 3) := by decide +kernel
theorem dX4_confessions_65 : decode cX4_confessions 65 = .ok (.iconst 4, 1) := by decide +kernel
theorem dX4_confessions_66 : decode cX4_confessions 66 = .ok (.iadd, 1) := by decide +kernel
theorem dX4_confessions_67 : decode cX4_confessions 67 = .ok (.iaload, 1) := by decide +kernel
theorem dX4_confessions_68 : decode cX4_confessions 68 = .ok (.bipush (-8), 2) := by decide +kernel
theorem dX4_confessions_70 : decode cX4_confessions 70 = .ok (.if_icmp .ne 13, 3) := by decide +kernel
theorem dX4_confessions_73 : decode cX4_confessions 73 = .ok (.aload_n 0, 1) := by decide +kernel
theorem dX4_confessions_74 : decode cX4_confessions 74 = .ok (.iload_n 2, 1) := by decide +kernel
theorem dX4_confessions_75 : decode cX4_confessions 75 = .ok (.iload 4, 2) := by decide +kernel
theorem dX4_confessions_77 : decode cX4_confessions 77 = .ok (.invokevirtual 183, 3) := by decide +kernel
theorem dX4_confessions_80 : decode cX4_confessions 80 = .ok (.ifCond .eq 7, 3) := by decide +kernel
theorem dX4_confessions_83 : decode cX4_confessions 83 = .ok (.iconst 1, 1) := by decide +kernel
theorem dX4_confessions_84 : decode cX4_confessions 84 = .ok (.goto 4, 3) := by decide +kernel
theorem dX4_confessions_87 : decode cX4_confessions 87 = .ok (.iconst 0, 1) := by decide +kernel
theorem dX4_confessions_88 : decode cX4_confessions 88 = .ok (.istore_n 3, 1) := by decide +kernel
theorem dX4_confessions_89 : decode cX4_confessions 89 = .ok (.iinc 4 1, 3) := by decide +kernel
theorem dX4_confessions_92 : decode cX4_confessions 92 = .ok (.goto (-51), 3) := by decide +kernel
theorem dX4_confessions_95 : decode cX4_confessions 95 = .ok (.iload_n 3, 1) := by decide +kernel
theorem dX4_confessions_96 : decode cX4_confessions 96 = .ok (.ifCond .eq 7, 3) := by decide +kernel
theorem dX4_confessions_99 : decode cX4_confessions 99 = .ok (.iload_n 2, 1) := by decide +kernel
theorem dX4_confessions_100 : decode cX4_confessions 100 = .ok (.goto 4, 3) := by decide +kernel
theorem dX4_confessions_103 : decode cX4_confessions 103 = .ok (.iload_n 1, 1) := by decide +kernel
theorem dX4_confessions_104 : decode cX4_confessions 104 = .ok (.istore_n 1, 1) := by decide +kernel
theorem dX4_confessions_105 : decode cX4_confessions 105 = .ok (.iinc 2 1, 3) := by decide +kernel
theorem dX4_confessions_108 : decode cX4_confessions 108 = .ok (.goto (-103), 3) := by decide +kernel
theorem dX4_confessions_111 : decode cX4_confessions 111 = .ok (.iload_n 1, 1) := by decide +kernel
theorem dX4_confessions_112 : decode cX4_confessions 112 = .ok (.ireturn, 1) := by decide +kernel
set_option maxRecDepth 20000 in
theorem ggX4_learns_X4_wrongBy : GoodIn wsX4_learns wsX4_wrongBy := goodIn_r _ [6] (by decide +kernel) (by decide +kernel)
set_option maxRecDepth 20000 in
theorem gX4_learns_X4_wrongBy : GoodIn wsX4_learns (va_wsS RX4 153 yX4_wrongBy wsX4_wrongBy) := goodIn_app (goodIn_of _ (by decide +kernel)) ggX4_learns_X4_wrongBy
set_option maxRecDepth 20000 in
theorem ggX4_learns_X4_no : GoodIn wsX4_learns wsX4_no := goodIn_r _ [10, 11, 61, 62, 63, 64, 65, 66, 67, 68, 69, 70, 71, 72, 73, 74, 75, 76] (by decide +kernel) (by decide +kernel)
set_option maxRecDepth 20000 in
theorem gX4_learns_X4_no : GoodIn wsX4_learns (wsV RX4 41 RX4 yX4_no wsX4_no) := goodIn_app (goodIn_of _ (by decide +kernel)) ggX4_learns_X4_no
set_option maxRecDepth 20000 in
theorem ggX4_learns_X4_copies : GoodIn wsX4_learns wsX4_copies := goodIn_r _ [14] (by decide +kernel) (by decide +kernel)
set_option maxRecDepth 20000 in
theorem gX4_learns_X4_copies : GoodIn wsX4_learns (va_wsS RX4 139 yX4_copies wsX4_copies) := goodIn_app (goodIn_of _ (by decide +kernel)) ggX4_learns_X4_copies
set_option maxRecDepth 20000 in
theorem ggX4_learns_X4_wholeBehind : GoodIn wsX4_learns wsX4_wholeBehind := goodIn_r _ [18, 2, 19, 20, 5, 21, 22, 23, 24, 25, 26, 27, 28, 29, 30, 31, 32, 33, 34, 35, 36, 37, 38, 39, 40, 41, 42, 43, 44, 45, 46, 47, 48, 49, 50, 51, 52, 53, 54, 55, 56, 57, 58, 59, 60, 61, 62, 63, 64, 65, 66, 67, 68, 69, 70, 71, 72, 73, 74, 75, 76] (by decide +kernel) (by decide +kernel)
set_option maxRecDepth 20000 in
theorem gX4_learns_X4_wholeBehind : GoodIn wsX4_learns (wsV RX4 180 RX4 yX4_wholeBehind wsX4_wholeBehind) := goodIn_app (goodIn_of _ (by decide +kernel)) ggX4_learns_X4_wholeBehind
set_option maxRecDepth 20000 in
theorem ggX4_learns_X4_ofP : GoodIn wsX4_learns wsX4_ofP := goodIn_r _ [48] (by decide +kernel) (by decide +kernel)
set_option maxRecDepth 20000 in
theorem gX4_learns_X4_ofP : GoodIn wsX4_learns (va_wsS RX4 58 yX4_ofP wsX4_ofP) := goodIn_app (goodIn_of _ (by decide +kernel)) ggX4_learns_X4_ofP
theorem dX4_learns_0 : decode cX4_learns 0 = .ok (.iload_n 1, 1) := by decide +kernel
theorem dX4_learns_1 : decode cX4_learns 1 = .ok (.bipush 99, 2) := by decide +kernel
theorem dX4_learns_3 : decode cX4_learns 3 = .ok (.invokestatic 153, 3) := by decide +kernel
theorem dX4_learns_6 : decode cX4_learns 6 = .ok (.istore_n 2, 1) := by decide +kernel
theorem dX4_learns_7 : decode cX4_learns 7 = .ok (.iload_n 2, 1) := by decide +kernel
theorem dX4_learns_8 : decode cX4_learns 8 = .ok (.ifCond .eq 9, 3) := by decide +kernel
theorem dX4_learns_11 : decode cX4_learns 11 = .ok (.aload_n 0, 1) := by decide +kernel
theorem dX4_learns_12 : decode cX4_learns 12 = .ok (.iload_n 2, 1) := by decide +kernel
theorem dX4_learns_13 : decode cX4_learns 13 = .ok (.invokevirtual 41, 3) := by decide +kernel
theorem dX4_learns_16 : decode cX4_learns 16 = .ok (.ireturn, 1) := by decide +kernel
theorem dX4_learns_17 : decode cX4_learns 17 = .ok (.aload_n 0, 1) := by decide +kernel
theorem dX4_learns_18 : decode cX4_learns 18 = .ok (.getfield 9, 3) := by decide +kernel
theorem dX4_learns_21 : decode cX4_learns 21 = .ok (.aload_n 0, 1) := by decide +kernel
theorem dX4_learns_22 : decode cX4_learns 22 = .ok (.getfield 13, 3) := by decide +kernel
theorem dX4_learns_25 : decode cX4_learns 25 = .ok (.invokestatic 139, 3) := by decide +kernel
theorem dX4_learns_28 : decode cX4_learns 28 = .ok (.aload_n 0, 1) := by decide +kernel
theorem dX4_learns_29 : decode cX4_learns 29 = .ok (.iload_n 1, 1) := by decide +kernel
theorem dX4_learns_30 : decode cX4_learns 30 = .ok (.invokevirtual 180, 3) := by decide +kernel
theorem dX4_learns_33 : decode cX4_learns 33 = .ok (.istore_n 3, 1) := by decide +kernel
theorem dX4_learns_34 : decode cX4_learns 34 = .ok (.bipush (-9), 2) := by decide +kernel
theorem dX4_learns_36 : decode cX4_learns 36 = .ok (.istore 4, 2) := by decide +kernel
theorem dX4_learns_38 : decode cX4_learns 38 = .ok (.iconst 0, 1) := by decide +kernel
theorem dX4_learns_39 : decode cX4_learns 39 = .ok (.istore 5, 2) := by decide +kernel
theorem dX4_learns_41 : decode cX4_learns 41 = .ok (.iload 5, 2) := by decide +kernel
theorem dX4_learns_43 : decode cX4_learns 43 = .ok (.aload_n 0, 1) := by decide +kernel
theorem dX4_learns_44 : decode cX4_learns 44 = .ok (.getfield 9, 3) := by decide +kernel
theorem dX4_learns_47 : decode cX4_learns 47 = .ok (.iconst 0, 1) := by decide +kernel
theorem dX4_learns_48 : decode cX4_learns 48 = .ok (.iaload, 1) := by decide +kernel
theorem dX4_learns_49 : decode cX4_learns 49 = .ok (.if_icmp .ge 57, 3) := by decide +kernel
theorem dX4_learns_52 : decode cX4_learns 52 = .ok (.aload_n 0, 1) := by decide +kernel
theorem dX4_learns_53 : decode cX4_learns 53 = .ok (.getfield 9, 3) := by decide +kernel
theorem dX4_learns_56 : decode cX4_learns 56 = .ok (.aload_n 0, 1) := by decide +kernel
theorem dX4_learns_57 : decode cX4_learns 57 = .ok (.getfield 13, 3) := by decide +kernel
theorem dX4_learns_60 : decode cX4_learns 60 = .ok (.invokestatic 139, 3) := by decide +kernel
theorem dX4_learns_63 : decode cX4_learns 63 = .ok (.aload_n 0, 1) := by decide +kernel
theorem dX4_learns_64 : decode cX4_learns 64 = .ok (.getfield 13, 3) := by decide +kernel
theorem dX4_learns_67 : decode cX4_learns 67 = .ok (.iload 5, 2) := by decide +kernel
theorem dX4_learns_69 : decode cX4_learns 69 = .ok (.invokestatic 58, 3) := by decide +kernel
theorem dX4_learns_72 : decode cX4_learns 72 = .ok (.iconst 0, 1) := by decide +kernel
theorem dX4_learns_73 : decode cX4_learns 73 = .ok (.iadd, 1) := by decide +kernel
theorem dX4_learns_74 : decode cX4_learns 74 = .ok (.bipush 9, 2) := by decide +kernel
theorem dX4_learns_76 : decode cX4_learns 76 = .ok (.iastore, 1) := by decide +kernel
theorem dX4_learns_77 : decode cX4_learns 77 = .ok (.aload_n 0, 1) := by decide +kernel
theorem dX4_learns_78 : decode cX4_learns 78 = .ok (.iload_n 1, 1) := by decide +kernel
theorem dX4_learns_79 : decode cX4_learns 79 = .ok (.invokevirtual 180, 3) := by decide +kernel
theorem dX4_learns_82 : decode cX4_learns 82 = .ok (.istore 6, 2) := by decide +kernel
theorem dX4_learns_84 : decode cX4_learns 84 = .ok (.iload 6, 2) := by decide +kernel
theorem dX4_learns_86 : decode cX4_learns 86 = .ok (.iload_n 3, 1) := by decide +kernel
theorem dX4_learns_87 : decode cX4_learns 87 = .ok (.if_icmp .gt 6, 3) := by decide +kernel
theorem dX4_learns_90 : decode cX4_learns 90 = .ok (.goto 10, 3) := by decide +kernel
theorem dX4_learns_93 : decode cX4_learns 93 = .ok (.iload 5, 2) := by decide +kernel
theorem dX4_learns_95 : decode cX4_learns 95 = .ok (.istore 4, 2) := by decide +kernel
theorem dX4_learns_97 : decode cX4_learns 97 = .ok (.iload 6, 2) := by decide +kernel
theorem dX4_learns_99 : decode cX4_learns 99 = .ok (.istore_n 3, 1) := by decide +kernel
theorem dX4_learns_100 : decode cX4_learns 100 = .ok (.iinc 5 1, 3) := by decide +kernel
theorem dX4_learns_103 : decode cX4_learns 103 = .ok (.goto (-62), 3) := by decide +kernel
theorem dX4_learns_106 : decode cX4_learns 106 = .ok (.iload 4, 2) := by decide +kernel
theorem dX4_learns_108 : decode cX4_learns 108 = .ok (.ireturn, 1) := by decide +kernel
set_option maxRecDepth 20000 in
theorem ggX4_missed_X4_wrongBy : GoodIn wsX4_missed wsX4_wrongBy := goodIn_r _ [7] (by decide +kernel) (by decide +kernel)
set_option maxRecDepth 20000 in
theorem gX4_missed_X4_wrongBy : GoodIn wsX4_missed (va_wsS RX4 153 yX4_wrongBy wsX4_wrongBy) := goodIn_app (goodIn_of _ (by decide +kernel)) ggX4_missed_X4_wrongBy
set_option maxRecDepth 20000 in
theorem ggX4_missed_X4_no : GoodIn wsX4_missed wsX4_no := goodIn_r _ [11, 12, 62, 63, 64, 65, 66, 67, 68, 69, 70, 71, 72, 73, 74, 75, 76, 77] (by decide +kernel) (by decide +kernel)
set_option maxRecDepth 20000 in
theorem gX4_missed_X4_no : GoodIn wsX4_missed (wsV RX4 41 RX4 yX4_no wsX4_no) := goodIn_app (goodIn_of _ (by decide +kernel)) ggX4_missed_X4_no
set_option maxRecDepth 20000 in
theorem ggX4_missed_X4_copies : GoodIn wsX4_missed wsX4_copies := goodIn_r _ [15] (by decide +kernel) (by decide +kernel)
set_option maxRecDepth 20000 in
theorem gX4_missed_X4_copies : GoodIn wsX4_missed (va_wsS RX4 139 yX4_copies wsX4_copies) := goodIn_app (goodIn_of _ (by decide +kernel)) ggX4_missed_X4_copies
set_option maxRecDepth 20000 in
theorem ggX4_missed_X4_wholeBehind : GoodIn wsX4_missed wsX4_wholeBehind := goodIn_r _ [19, 3, 20, 21, 6, 22, 23, 24, 25, 26, 27, 28, 29, 30, 31, 32, 33, 34, 35, 36, 37, 38, 39, 40, 41, 42, 43, 44, 45, 46, 47, 48, 49, 50, 51, 52, 53, 54, 55, 56, 57, 58, 59, 60, 61, 62, 63, 64, 65, 66, 67, 68, 69, 70, 71, 72, 73, 74, 75, 76, 77] (by decide +kernel) (by decide +kernel)
set_option maxRecDepth 20000 in
theorem gX4_missed_X4_wholeBehind : GoodIn wsX4_missed (wsV RX4 180 RX4 yX4_wholeBehind wsX4_wholeBehind) := goodIn_app (goodIn_of _ (by decide +kernel)) ggX4_missed_X4_wholeBehind
theorem dX4_missed_0 : decode cX4_missed 0 = .ok (.iload_n 1, 1) := by decide +kernel
theorem dX4_missed_1 : decode cX4_missed 1 = .ok (.bipush 99, 2) := by decide +kernel
theorem dX4_missed_3 : decode cX4_missed 3 = .ok (.invokestatic 153, 3) := by decide +kernel
theorem dX4_missed_6 : decode cX4_missed 6 = .ok (.istore_n 2, 1) := by decide +kernel
theorem dX4_missed_7 : decode cX4_missed 7 = .ok (.iload_n 2, 1) := by decide +kernel
theorem dX4_missed_8 : decode cX4_missed 8 = .ok (.ifCond .eq 9, 3) := by decide +kernel
theorem dX4_missed_11 : decode cX4_missed 11 = .ok (.aload_n 0, 1) := by decide +kernel
theorem dX4_missed_12 : decode cX4_missed 12 = .ok (.iload_n 2, 1) := by decide +kernel
theorem dX4_missed_13 : decode cX4_missed 13 = .ok (.invokevirtual 41, 3) := by decide +kernel
theorem dX4_missed_16 : decode cX4_missed 16 = .ok (.ireturn, 1) := by decide +kernel
theorem dX4_missed_17 : decode cX4_missed 17 = .ok (.bipush (-9), 2) := by decide +kernel
theorem dX4_missed_19 : decode cX4_missed 19 = .ok (.istore_n 3, 1) := by decide +kernel
theorem dX4_missed_20 : decode cX4_missed 20 = .ok (.ldc 40, 2) := by decide +kernel
theorem dX4_missed_22 : decode cX4_missed 22 = .ok (.istore 4, 2) := by decide +kernel
theorem dX4_missed_24 : decode cX4_missed 24 = .ok (.iconst 0, 1) := by decide +kernel
theorem dX4_missed_25 : decode cX4_missed 25 = .ok (.istore 5, 2) := by decide +kernel
theorem dX4_missed_27 : decode cX4_missed 27 = .ok (.iload 5, 2) := by decide +kernel
theorem dX4_missed_29 : decode cX4_missed 29 = .ok (.aload_n 0, 1) := by decide +kernel
theorem dX4_missed_30 : decode cX4_missed 30 = .ok (.getfield 9, 3) := by decide +kernel
theorem dX4_missed_33 : decode cX4_missed 33 = .ok (.iconst 0, 1) := by decide +kernel
theorem dX4_missed_34 : decode cX4_missed 34 = .ok (.iaload, 1) := by decide +kernel
theorem dX4_missed_35 : decode cX4_missed 35 = .ok (.if_icmp .ge 52, 3) := by decide +kernel
theorem dX4_missed_38 : decode cX4_missed 38 = .ok (.aload_n 0, 1) := by decide +kernel
theorem dX4_missed_39 : decode cX4_missed 39 = .ok (.getfield 9, 3) := by decide +kernel
theorem dX4_missed_42 : decode cX4_missed 42 = .ok (.aload_n 0, 1) := by decide +kernel
theorem dX4_missed_43 : decode cX4_missed 43 = .ok (.getfield 13, 3) := by decide +kernel
theorem dX4_missed_46 : decode cX4_missed 46 = .ok (.invokestatic 139, 3) := by decide +kernel
theorem dX4_missed_49 : decode cX4_missed 49 = .ok (.aload_n 0, 1) := by decide +kernel
theorem dX4_missed_50 : decode cX4_missed 50 = .ok (.getfield 13, 3) := by decide +kernel
theorem dX4_missed_53 : decode cX4_missed 53 = .ok (.iconst 3, 1) := by decide +kernel
theorem dX4_missed_54 : decode cX4_missed 54 = .ok (.iload 5, 2) := by decide +kernel
theorem dX4_missed_56 : decode cX4_missed 56 = .ok (.iastore, 1) := by decide +kernel
theorem dX4_missed_57 : decode cX4_missed 57 = .ok (.aload_n 0, 1) := by decide +kernel
theorem dX4_missed_58 : decode cX4_missed 58 = .ok (.iload_n 1, 1) := by decide +kernel
theorem dX4_missed_59 : decode cX4_missed 59 = .ok (.invokevirtual 180, 3) := by decide +kernel
theorem dX4_missed_62 : decode cX4_missed 62 = .ok (.istore 6, 2) := by decide +kernel
theorem dX4_missed_64 : decode cX4_missed 64 = .ok (.iload 6, 2) := by decide +kernel
theorem dX4_missed_66 : decode cX4_missed 66 = .ok (.iload 4, 2) := by decide +kernel
theorem dX4_missed_68 : decode cX4_missed 68 = .ok (.if_icmp .lt 6, 3) := by decide +kernel
theorem dX4_missed_71 : decode cX4_missed 71 = .ok (.goto 10, 3) := by decide +kernel
theorem dX4_missed_74 : decode cX4_missed 74 = .ok (.iload 5, 2) := by decide +kernel
theorem dX4_missed_76 : decode cX4_missed 76 = .ok (.istore_n 3, 1) := by decide +kernel
theorem dX4_missed_77 : decode cX4_missed 77 = .ok (.iload 6, 2) := by decide +kernel
theorem dX4_missed_79 : decode cX4_missed 79 = .ok (.istore 4, 2) := by decide +kernel
theorem dX4_missed_81 : decode cX4_missed 81 = .ok (.iinc 5 1, 3) := by decide +kernel
theorem dX4_missed_84 : decode cX4_missed 84 = .ok (.goto (-57), 3) := by decide +kernel
theorem dX4_missed_87 : decode cX4_missed 87 = .ok (.iload_n 3, 1) := by decide +kernel
theorem dX4_missed_88 : decode cX4_missed 88 = .ok (.ireturn, 1) := by decide +kernel
set_option maxRecDepth 20000 in
theorem ggX4_hasBroken_X4_ofT : GoodIn wsX4_hasBroken wsX4_ofT := goodIn_r _ [5] (by decide +kernel) (by decide +kernel)
set_option maxRecDepth 20000 in
theorem gX4_hasBroken_X4_ofT : GoodIn wsX4_hasBroken (va_wsS RX4 51 yX4_ofT wsX4_ofT) := goodIn_app (goodIn_of _ (by decide +kernel)) ggX4_hasBroken_X4_ofT
theorem dX4_hasBroken_0 : decode cX4_hasBroken 0 = .ok (.aload_n 0, 1) := by decide +kernel
theorem dX4_hasBroken_1 : decode cX4_hasBroken 1 = .ok (.getfield 9, 3) := by decide +kernel
theorem dX4_hasBroken_4 : decode cX4_hasBroken 4 = .ok (.iload_n 2, 1) := by decide +kernel
theorem dX4_hasBroken_5 : decode cX4_hasBroken 5 = .ok (.invokestatic 51, 3) := by decide +kernel
theorem dX4_hasBroken_8 : decode cX4_hasBroken 8 = .ok (.iconst 4, 1) := by decide +kernel
theorem dX4_hasBroken_9 : decode cX4_hasBroken 9 = .ok (.iadd, 1) := by decide +kernel
theorem dX4_hasBroken_10 : decode cX4_hasBroken 10 = .ok (.iaload, 1) := by decide +kernel
theorem dX4_hasBroken_11 : decode cX4_hasBroken 11 = .ok (.iload_n 1, 1) := by decide +kernel
theorem dX4_hasBroken_12 : decode cX4_hasBroken 12 = .ok (.if_icmp .ne 22, 3) := by decide +kernel
theorem dX4_hasBroken_15 : decode cX4_hasBroken 15 = .ok (.aload_n 0, 1) := by decide +kernel
theorem dX4_hasBroken_16 : decode cX4_hasBroken 16 = .ok (.getfield 9, 3) := by decide +kernel
theorem dX4_hasBroken_19 : decode cX4_hasBroken 19 = .ok (.iload_n 2, 1) := by decide +kernel
theorem dX4_hasBroken_20 : decode cX4_hasBroken 20 = .ok (.invokestatic 51, 3) := by decide +kernel
theorem dX4_hasBroken_23 : decode cX4_hasBroken 23 = .ok (.iconst 2, 1) := by decide +kernel
theorem dX4_hasBroken_24 : decode cX4_hasBroken 24 = .ok (.iadd, 1) := by decide +kernel
theorem dX4_hasBroken_25 : decode cX4_hasBroken 25 = .ok (.iaload, 1) := by decide +kernel
theorem dX4_hasBroken_26 : decode cX4_hasBroken 26 = .ok (.iload_n 1, 1) := by decide +kernel
theorem dX4_hasBroken_27 : decode cX4_hasBroken 27 = .ok (.if_icmp .eq 7, 3) := by decide +kernel
theorem dX4_hasBroken_30 : decode cX4_hasBroken 30 = .ok (.iconst 1, 1) := by decide +kernel
theorem dX4_hasBroken_31 : decode cX4_hasBroken 31 = .ok (.goto 4, 3) := by decide +kernel
theorem dX4_hasBroken_34 : decode cX4_hasBroken 34 = .ok (.iconst 0, 1) := by decide +kernel
theorem dX4_hasBroken_35 : decode cX4_hasBroken 35 = .ok (.ireturn, 1) := by decide +kernel
set_option maxRecDepth 20000 in
theorem ggX4_due_X4_isPerson : GoodIn wsX4_due wsX4_isPerson := goodIn_r _ [6, 1, 7, 8, 5, 9, 27, 28, 29, 30, 31, 32, 33, 34, 35, 36, 37, 38, 39, 40, 41, 42] (by decide +kernel) (by decide +kernel)
set_option maxRecDepth 20000 in
theorem gX4_due_X4_isPerson : GoodIn wsX4_due (wsV RX4 123 RX4 yX4_isPerson wsX4_isPerson) := goodIn_app (goodIn_of _ (by decide +kernel)) ggX4_due_X4_isPerson
set_option maxRecDepth 20000 in
theorem ggX4_due_X4_noFar : GoodIn wsX4_due wsX4_noFar := goodIn_r _ [13, 14, 15, 16, 17, 5, 18, 19, 27, 28, 29, 30, 31, 32, 33, 34, 35, 36, 37, 38, 39, 40, 41, 42] (by decide +kernel) (by decide +kernel)
set_option maxRecDepth 20000 in
theorem gX4_due_X4_noFar : GoodIn wsX4_due (wsV RX4 186 RX4 yX4_noFar wsX4_noFar) := goodIn_app (goodIn_of _ (by decide +kernel)) ggX4_due_X4_noFar
set_option maxRecDepth 20000 in
theorem ggX4_due_X4_ofT : GoodIn wsX4_due wsX4_ofT := goodIn_r _ [22] (by decide +kernel) (by decide +kernel)
set_option maxRecDepth 20000 in
theorem gX4_due_X4_ofT : GoodIn wsX4_due (va_wsS RX4 51 yX4_ofT wsX4_ofT) := goodIn_app (goodIn_of _ (by decide +kernel)) ggX4_due_X4_ofT
set_option maxRecDepth 20000 in
theorem ggX4_due_X4_hasBroken : GoodIn wsX4_due wsX4_hasBroken := goodIn_r _ [26, 1, 20, 21, 5, 22, 27, 28, 29, 30, 31, 32, 33, 34, 35, 36, 37, 38, 39, 40, 41, 42] (by decide +kernel) (by decide +kernel)
set_option maxRecDepth 20000 in
theorem gX4_due_X4_hasBroken : GoodIn wsX4_due (wsV RX4 189 RX4 yX4_hasBroken wsX4_hasBroken) := goodIn_app (goodIn_of _ (by decide +kernel)) ggX4_due_X4_hasBroken
theorem dX4_due_0 : decode cX4_due 0 = .ok (.aload_n 0, 1) := by decide +kernel
theorem dX4_due_1 : decode cX4_due 1 = .ok (.iload_n 1, 1) := by decide +kernel
theorem dX4_due_2 : decode cX4_due 2 = .ok (.invokevirtual 123, 3) := by decide +kernel
theorem dX4_due_5 : decode cX4_due 5 = .ok (.ifCond .ne 9, 3) := by decide +kernel
theorem dX4_due_8 : decode cX4_due 8 = .ok (.aload_n 0, 1) := by decide +kernel
theorem dX4_due_9 : decode cX4_due 9 = .ok (.iconst (-1), 1) := by decide +kernel
theorem dX4_due_10 : decode cX4_due 10 = .ok (.invokevirtual 186, 3) := by decide +kernel
theorem dX4_due_13 : decode cX4_due 13 = .ok (.ireturn, 1) := by decide +kernel
theorem dX4_due_14 : decode cX4_due 14 = .ok (.iconst 0, 1) := by decide +kernel
theorem dX4_due_15 : decode cX4_due 15 = .ok (.istore_n 2, 1) := by decide +kernel
theorem dX4_due_16 : decode cX4_due 16 = .ok (.iconst 0, 1) := by decide +kernel
theorem dX4_due_17 : decode cX4_due 17 = .ok (.istore_n 3, 1) := by decide +kernel
theorem dX4_due_18 : decode cX4_due 18 = .ok (.iload_n 3, 1) := by decide +kernel
theorem dX4_due_19 : decode cX4_due 19 = .ok (.aload_n 0, 1) := by decide +kernel
theorem dX4_due_20 : decode cX4_due 20 = .ok (.getfield 9, 3) := by decide +kernel
theorem dX4_due_23 : decode cX4_due 23 = .ok (.iconst 1, 1) := by decide +kernel
theorem dX4_due_24 : decode cX4_due 24 = .ok (.iaload, 1) := by decide +kernel
theorem dX4_due_25 : decode cX4_due 25 = .ok (.if_icmp .ge 73, 3) := by decide +kernel
theorem dX4_due_28 : decode cX4_due 28 = .ok (.aload_n 0, 1) := by decide +kernel
theorem dX4_due_29 : decode cX4_due 29 = .ok (.getfield 9, 3) := by decide +kernel
theorem dX4_due_32 : decode cX4_due 32 = .ok (.iload_n 3, 1) := by decide +kernel
theorem dX4_due_33 : decode cX4_due 33 = .ok (.invokestatic 51, 3) := by decide +kernel
theorem dX4_due_36 : decode cX4_due 36 = .ok (.iconst 4, 1) := by decide +kernel
theorem dX4_due_37 : decode cX4_due 37 = .ok (.iadd, 1) := by decide +kernel
theorem dX4_due_38 : decode cX4_due 38 = .ok (.iaload, 1) := by decide +kernel
theorem dX4_due_39 : decode cX4_due 39 = .ok (.istore 4, 2) := by decide +kernel
theorem dX4_due_41 : decode cX4_due 41 = .ok (.iload_n 2, 1) := by decide +kernel
theorem dX4_due_42 : decode cX4_due 42 = .ok (.aload_n 0, 1) := by decide +kernel
theorem dX4_due_43 : decode cX4_due 43 = .ok (.iload_n 1, 1) := by decide +kernel
theorem dX4_due_44 : decode cX4_due 44 = .ok (.iload_n 3, 1) := by decide +kernel
theorem dX4_due_45 : decode cX4_due 45 = .ok (.invokevirtual 189, 3) := by decide +kernel
theorem dX4_due_48 : decode cX4_due 48 = .ok (.ifCond .eq 7, 3) := by decide +kernel
theorem dX4_due_51 : decode cX4_due 51 = .ok (.iconst 1, 1) := by decide +kernel
theorem dX4_due_52 : decode cX4_due 52 = .ok (.goto 4, 3) := by decide +kernel
theorem dX4_due_55 : decode cX4_due 55 = .ok (.iconst 0, 1) := by decide +kernel
theorem dX4_due_56 : decode cX4_due 56 = .ok (.iadd, 1) := by decide +kernel
theorem dX4_due_57 : decode cX4_due 57 = .ok (.istore_n 2, 1) := by decide +kernel
theorem dX4_due_58 : decode cX4_due 58 = .ok (.iload_n 2, 1) := by decide +kernel
theorem dX4_due_59 : decode cX4_due 59 = .ok (.aload_n 0, 1) := by decide +kernel
theorem dX4_due_60 : decode cX4_due 60 = .ok (.getfield 9, 3) := by decide +kernel
theorem dX4_due_63 : decode cX4_due 63 = .ok (.iload_n 3, 1) := by decide +kernel
theorem dX4_due_64 : decode cX4_due 64 = .ok (.invokestatic 51, 3) := by decide +kernel
theorem dX4_due_67 : decode cX4_due 67 = .ok (.iconst 2, 1) := by decide +kernel
theorem dX4_due_68 : decode cX4_due 68 = .ok (.iadd, 1) := by decide +kernel
theorem dX4_due_69 : decode cX4_due 69 = .ok (.iaload, 1) := by decide +kernel
theorem dX4_due_70 : decode cX4_due 70 = .ok (.iload_n 1, 1) := by decide +kernel
theorem dX4_due_71 : decode cX4_due 71 = .ok (.if_icmp .ne 18, 3) := by decide +kernel
theorem dX4_due_74 : decode cX4_due 74 = .ok (.iload 4, 2) := by decide +kernel
theorem dX4_due_76 : decode cX4_due 76 = .ok (.ifCond .lt 13, 3) := by decide +kernel
theorem dX4_due_79 : decode cX4_due 79 = .ok (.iload 4, 2) := by decide +kernel
theorem dX4_due_81 : decode cX4_due 81 = .ok (.iload_n 1, 1) := by decide +kernel
theorem dX4_due_82 : decode cX4_due 82 = .ok (.if_icmp .eq 7, 3) := by decide +kernel
theorem dX4_due_85 : decode cX4_due 85 = .ok (.iconst 1, 1) := by decide +kernel
theorem dX4_due_86 : decode cX4_due 86 = .ok (.goto 4, 3) := by decide +kernel
theorem dX4_due_89 : decode cX4_due 89 = .ok (.iconst 0, 1) := by decide +kernel
theorem dX4_due_90 : decode cX4_due 90 = .ok (.isub, 1) := by decide +kernel
theorem dX4_due_91 : decode cX4_due 91 = .ok (.istore_n 2, 1) := by decide +kernel
theorem dX4_due_92 : decode cX4_due 92 = .ok (.iinc 3 1, 3) := by decide +kernel
theorem dX4_due_95 : decode cX4_due 95 = .ok (.goto (-77), 3) := by decide +kernel
theorem dX4_due_98 : decode cX4_due 98 = .ok (.iload_n 2, 1) := by decide +kernel
theorem dX4_due_99 : decode cX4_due 99 = .ok (.ireturn, 1) := by decide +kernel
set_option maxRecDepth 20000 in
theorem ggX4_breakerOf_X4_ofT : GoodIn wsX4_breakerOf wsX4_ofT := goodIn_r _ [5] (by decide +kernel) (by decide +kernel)
set_option maxRecDepth 20000 in
theorem gX4_breakerOf_X4_ofT : GoodIn wsX4_breakerOf (va_wsS RX4 51 yX4_ofT wsX4_ofT) := goodIn_app (goodIn_of _ (by decide +kernel)) ggX4_breakerOf_X4_ofT
theorem dX4_breakerOf_0 : decode cX4_breakerOf 0 = .ok (.iconst 0, 1) := by decide +kernel
theorem dX4_breakerOf_1 : decode cX4_breakerOf 1 = .ok (.istore_n 2, 1) := by decide +kernel
theorem dX4_breakerOf_2 : decode cX4_breakerOf 2 = .ok (.iload_n 2, 1) := by decide +kernel
theorem dX4_breakerOf_3 : decode cX4_breakerOf 3 = .ok (.aload_n 0, 1) := by decide +kernel
theorem dX4_breakerOf_4 : decode cX4_breakerOf 4 = .ok (.getfield 9, 3) := by decide +kernel
theorem dX4_breakerOf_7 : decode cX4_breakerOf 7 = .ok (.iconst 1, 1) := by decide +kernel
theorem dX4_breakerOf_8 : decode cX4_breakerOf 8 = .ok (.iaload, 1) := by decide +kernel
theorem dX4_breakerOf_9 : decode cX4_breakerOf 9 = .ok (.if_icmp .ge 65, 3) := by decide +kernel
theorem dX4_breakerOf_12 : decode cX4_breakerOf 12 = .ok (.aload_n 0, 1) := by decide +kernel
theorem dX4_breakerOf_13 : decode cX4_breakerOf 13 = .ok (.getfield 9, 3) := by decide +kernel
theorem dX4_breakerOf_16 : decode cX4_breakerOf 16 = .ok (.iload_n 2, 1) := by decide +kernel
theorem dX4_breakerOf_17 : decode cX4_breakerOf 17 = .ok (.invokestatic 51, 3) := by decide +kernel
theorem dX4_breakerOf_20 : decode cX4_breakerOf 20 = .ok (.iconst 2, 1) := by decide +kernel
theorem dX4_breakerOf_21 : decode cX4_breakerOf 21 = .ok (.iadd, 1) := by decide +kernel
theorem dX4_breakerOf_22 : decode cX4_breakerOf 22 = .ok (.iaload, 1) := by decide +kernel
theorem dX4_breakerOf_23 : decode cX4_breakerOf 23 = .ok (.iload_n 1, 1) := by decide +kernel
theorem dX4_breakerOf_24 : decode cX4_breakerOf 24 = .ok (.if_icmp .ne 44, 3) := by decide +kernel
theorem dX4_breakerOf_27 : decode cX4_breakerOf 27 = .ok (.aload_n 0, 1) := by decide +kernel
theorem dX4_breakerOf_28 : decode cX4_breakerOf 28 = .ok (.getfield 9, 3) := by decide +kernel
theorem dX4_breakerOf_31 : decode cX4_breakerOf 31 = .ok (.iload_n 2, 1) := by decide +kernel
theorem dX4_breakerOf_32 : decode cX4_breakerOf 32 = .ok (.invokestatic 51, 3) := by decide +kernel
theorem dX4_breakerOf_35 : decode cX4_breakerOf 35 = .ok (.iconst 4, 1) := by decide +kernel
theorem dX4_breakerOf_36 : decode cX4_breakerOf 36 = .ok (.iadd, 1) := by decide +kernel
theorem dX4_breakerOf_37 : decode cX4_breakerOf 37 = .ok (.iaload, 1) := by decide +kernel
theorem dX4_breakerOf_38 : decode cX4_breakerOf 38 = .ok (.ifCond .lt 30, 3) := by decide +kernel
theorem dX4_breakerOf_41 : decode cX4_breakerOf 41 = .ok (.aload_n 0, 1) := by decide +kernel
theorem dX4_breakerOf_42 : decode cX4_breakerOf 42 = .ok (.getfield 9, 3) := by decide +kernel
theorem dX4_breakerOf_45 : decode cX4_breakerOf 45 = .ok (.iload_n 2, 1) := by decide +kernel
theorem dX4_breakerOf_46 : decode cX4_breakerOf 46 = .ok (.invokestatic 51, 3) := by decide +kernel
theorem dX4_breakerOf_49 : decode cX4_breakerOf 49 = .ok (.iconst 4, 1) := by decide +kernel
theorem dX4_breakerOf_50 : decode cX4_breakerOf 50 = .ok (.iadd, 1) := by decide +kernel
theorem dX4_breakerOf_51 : decode cX4_breakerOf 51 = .ok (.iaload, 1) := by decide +kernel
theorem dX4_breakerOf_52 : decode cX4_breakerOf 52 = .ok (.iload_n 1, 1) := by decide +kernel
theorem dX4_breakerOf_53 : decode cX4_breakerOf 53 = .ok (.if_icmp .eq 15, 3) := by decide +kernel
theorem dX4_breakerOf_56 : decode cX4_breakerOf 56 = .ok (.aload_n 0, 1) := by decide +kernel
theorem dX4_breakerOf_57 : decode cX4_breakerOf 57 = .ok (.getfield 9, 3) := by decide +kernel
theorem dX4_breakerOf_60 : decode cX4_breakerOf 60 = .ok (.iload_n 2, 1) := by decide +kernel
theorem dX4_breakerOf_61 : decode cX4_breakerOf 61 = .ok (.invokestatic 51, 3) := by decide +kernel
theorem dX4_breakerOf_64 : decode cX4_breakerOf 64 = .ok (.iconst 4, 1) := by decide +kernel
theorem dX4_breakerOf_65 : decode cX4_breakerOf 65 = .ok (.iadd, 1) := by decide +kernel
theorem dX4_breakerOf_66 : decode cX4_breakerOf 66 = .ok (.iaload, 1) := by decide +kernel
theorem dX4_breakerOf_67 : decode cX4_breakerOf 67 = .ok (.ireturn, 1) := by decide +kernel
theorem dX4_breakerOf_68 : decode cX4_breakerOf 68 = .ok (.iinc 2 1, 3) := by decide +kernel
theorem dX4_breakerOf_71 : decode cX4_breakerOf 71 = .ok (.goto (-69), 3) := by decide +kernel
theorem dX4_breakerOf_74 : decode cX4_breakerOf 74 = .ok (.bipush (-9), 2) := by decide +kernel
theorem dX4_breakerOf_76 : decode cX4_breakerOf 76 = .ok (.ireturn, 1) := by decide +kernel
set_option maxRecDepth 20000 in
theorem ggX4_ring_X4_isPerson : GoodIn wsX4_ring wsX4_isPerson := goodIn_r _ [5, 6, 7, 8, 4, 9, 28, 29, 30, 31, 32, 33, 34, 35, 36, 37, 38, 39, 40, 41, 42, 43] (by decide +kernel) (by decide +kernel)
set_option maxRecDepth 20000 in
theorem gX4_ring_X4_isPerson : GoodIn wsX4_ring (wsV RX4 123 RX4 yX4_isPerson wsX4_isPerson) := goodIn_app (goodIn_of _ (by decide +kernel)) ggX4_ring_X4_isPerson
set_option maxRecDepth 20000 in
theorem ggX4_ring_X4_no : GoodIn wsX4_ring wsX4_no := goodIn_r _ [13, 14, 28, 29, 30, 31, 32, 33, 34, 35, 36, 37, 38, 39, 40, 41, 42, 43] (by decide +kernel) (by decide +kernel)
set_option maxRecDepth 20000 in
theorem gX4_ring_X4_no : GoodIn wsX4_ring (wsV RX4 41 RX4 yX4_no wsX4_no) := goodIn_app (goodIn_of _ (by decide +kernel)) ggX4_ring_X4_no
set_option maxRecDepth 20000 in
theorem ggX4_ring_X4_isIn : GoodIn wsX4_ring wsX4_isIn := goodIn_r _ [9] (by decide +kernel) (by decide +kernel)
set_option maxRecDepth 20000 in
theorem gX4_ring_X4_isIn : GoodIn wsX4_ring (va_wsS RX4 47 yX4_isIn wsX4_isIn) := goodIn_app (goodIn_of _ (by decide +kernel)) ggX4_ring_X4_isIn
set_option maxRecDepth 20000 in
theorem ggX4_ring_X4_has : GoodIn wsX4_ring wsX4_has := goodIn_r _ [17] (by decide +kernel) (by decide +kernel)
set_option maxRecDepth 20000 in
theorem gX4_ring_X4_has : GoodIn wsX4_ring (va_wsS RX4 173 yX4_has wsX4_has) := goodIn_app (goodIn_of _ (by decide +kernel)) ggX4_ring_X4_has
set_option maxRecDepth 20000 in
theorem ggX4_ring_X4_breakerOf : GoodIn wsX4_ring wsX4_breakerOf := goodIn_r _ [21, 6, 22, 23, 4, 24, 28, 29, 30, 31, 32, 33, 34, 35, 36, 37, 38, 39, 40, 41, 42, 43] (by decide +kernel) (by decide +kernel)
set_option maxRecDepth 20000 in
theorem gX4_ring_X4_breakerOf : GoodIn wsX4_ring (wsV RX4 192 RX4 yX4_breakerOf wsX4_breakerOf) := goodIn_app (goodIn_of _ (by decide +kernel)) ggX4_ring_X4_breakerOf
set_option maxRecDepth 20000 in
theorem ggX4_ring_X4_bits : GoodIn wsX4_ring wsX4_bits := goodIn_r _ [27] (by decide +kernel) (by decide +kernel)
set_option maxRecDepth 20000 in
theorem gX4_ring_X4_bits : GoodIn wsX4_ring (va_wsS RX4 98 yX4_bits wsX4_bits) := goodIn_app (goodIn_of _ (by decide +kernel)) ggX4_ring_X4_bits
theorem dX4_ring_0 : decode cX4_ring 0 = .ok (.aload_n 0, 1) := by decide +kernel
theorem dX4_ring_1 : decode cX4_ring 1 = .ok (.iload_n 1, 1) := by decide +kernel
theorem dX4_ring_2 : decode cX4_ring 2 = .ok (.invokevirtual 123, 3) := by decide +kernel
theorem dX4_ring_5 : decode cX4_ring 5 = .ok (.ifCond .ne 9, 3) := by decide +kernel
theorem dX4_ring_8 : decode cX4_ring 8 = .ok (.aload_n 0, 1) := by decide +kernel
theorem dX4_ring_9 : decode cX4_ring 9 = .ok (.iconst (-1), 1) := by decide +kernel
theorem dX4_ring_10 : decode cX4_ring 10 = .ok (.invokevirtual 41, 3) := by decide +kernel
theorem dX4_ring_13 : decode cX4_ring 13 = .ok (.ireturn, 1) := by decide +kernel
theorem dX4_ring_14 : decode cX4_ring 14 = .ok (.iload_n 2, 1) := by decide +kernel
theorem dX4_ring_15 : decode cX4_ring 15 = .ok (.iconst 0, 1) := by decide +kernel
theorem dX4_ring_16 : decode cX4_ring 16 = .ok (.iconst 1, 1) := by decide +kernel
theorem dX4_ring_17 : decode cX4_ring 17 = .ok (.invokestatic 47, 3) := by decide +kernel
theorem dX4_ring_20 : decode cX4_ring 20 = .ok (.ifCond .ne 10, 3) := by decide +kernel
theorem dX4_ring_23 : decode cX4_ring 23 = .ok (.aload_n 0, 1) := by decide +kernel
theorem dX4_ring_24 : decode cX4_ring 24 = .ok (.bipush (-2), 2) := by decide +kernel
theorem dX4_ring_26 : decode cX4_ring 26 = .ok (.invokevirtual 41, 3) := by decide +kernel
theorem dX4_ring_29 : decode cX4_ring 29 = .ok (.ireturn, 1) := by decide +kernel
theorem dX4_ring_30 : decode cX4_ring 30 = .ok (.iconst 0, 1) := by decide +kernel
theorem dX4_ring_31 : decode cX4_ring 31 = .ok (.istore_n 3, 1) := by decide +kernel
theorem dX4_ring_32 : decode cX4_ring 32 = .ok (.iload_n 1, 1) := by decide +kernel
theorem dX4_ring_33 : decode cX4_ring 33 = .ok (.istore 4, 2) := by decide +kernel
theorem dX4_ring_35 : decode cX4_ring 35 = .ok (.iload 4, 2) := by decide +kernel
theorem dX4_ring_37 : decode cX4_ring 37 = .ok (.ifCond .lt 30, 3) := by decide +kernel
theorem dX4_ring_40 : decode cX4_ring 40 = .ok (.iload_n 3, 1) := by decide +kernel
theorem dX4_ring_41 : decode cX4_ring 41 = .ok (.iload 4, 2) := by decide +kernel
theorem dX4_ring_43 : decode cX4_ring 43 = .ok (.invokestatic 173, 3) := by decide +kernel
theorem dX4_ring_46 : decode cX4_ring 46 = .ok (.ifCond .ne 21, 3) := by decide +kernel
theorem dX4_ring_49 : decode cX4_ring 49 = .ok (.iload_n 3, 1) := by decide +kernel
theorem dX4_ring_50 : decode cX4_ring 50 = .ok (.iconst 1, 1) := by decide +kernel
theorem dX4_ring_51 : decode cX4_ring 51 = .ok (.iload 4, 2) := by decide +kernel
theorem dX4_ring_53 : decode cX4_ring 53 = .ok (.ishl, 1) := by decide +kernel
theorem dX4_ring_54 : decode cX4_ring 54 = .ok (.ior, 1) := by decide +kernel
theorem dX4_ring_55 : decode cX4_ring 55 = .ok (.istore_n 3, 1) := by decide +kernel
theorem dX4_ring_56 : decode cX4_ring 56 = .ok (.aload_n 0, 1) := by decide +kernel
theorem dX4_ring_57 : decode cX4_ring 57 = .ok (.iload 4, 2) := by decide +kernel
theorem dX4_ring_59 : decode cX4_ring 59 = .ok (.invokevirtual 192, 3) := by decide +kernel
theorem dX4_ring_62 : decode cX4_ring 62 = .ok (.istore 4, 2) := by decide +kernel
theorem dX4_ring_64 : decode cX4_ring 64 = .ok (.goto (-29), 3) := by decide +kernel
theorem dX4_ring_67 : decode cX4_ring 67 = .ok (.iload_n 2, 1) := by decide +kernel
theorem dX4_ring_68 : decode cX4_ring 68 = .ok (.ifCond .ne 10, 3) := by decide +kernel
theorem dX4_ring_71 : decode cX4_ring 71 = .ok (.iload_n 3, 1) := by decide +kernel
theorem dX4_ring_72 : decode cX4_ring 72 = .ok (.invokestatic 98, 3) := by decide +kernel
theorem dX4_ring_75 : decode cX4_ring 75 = .ok (.goto 13, 3) := by decide +kernel
theorem dX4_ring_78 : decode cX4_ring 78 = .ok (.iload 4, 2) := by decide +kernel
theorem dX4_ring_80 : decode cX4_ring 80 = .ok (.ifCond .ge 7, 3) := by decide +kernel
theorem dX4_ring_83 : decode cX4_ring 83 = .ok (.iconst 0, 1) := by decide +kernel
theorem dX4_ring_84 : decode cX4_ring 84 = .ok (.goto 4, 3) := by decide +kernel
theorem dX4_ring_87 : decode cX4_ring 87 = .ok (.iconst 1, 1) := by decide +kernel
theorem dX4_ring_88 : decode cX4_ring 88 = .ok (.ireturn, 1) := by decide +kernel
set_option maxRecDepth 20000 in
theorem ggX4_brokeOne_X4_ofT : GoodIn wsX4_brokeOne wsX4_ofT := goodIn_r _ [5] (by decide +kernel) (by decide +kernel)
set_option maxRecDepth 20000 in
theorem gX4_brokeOne_X4_ofT : GoodIn wsX4_brokeOne (va_wsS RX4 51 yX4_ofT wsX4_ofT) := goodIn_app (goodIn_of _ (by decide +kernel)) ggX4_brokeOne_X4_ofT
theorem dX4_brokeOne_0 : decode cX4_brokeOne 0 = .ok (.iconst 0, 1) := by decide +kernel
theorem dX4_brokeOne_1 : decode cX4_brokeOne 1 = .ok (.istore_n 3, 1) := by decide +kernel
theorem dX4_brokeOne_2 : decode cX4_brokeOne 2 = .ok (.iload_n 3, 1) := by decide +kernel
theorem dX4_brokeOne_3 : decode cX4_brokeOne 3 = .ok (.aload_n 0, 1) := by decide +kernel
theorem dX4_brokeOne_4 : decode cX4_brokeOne 4 = .ok (.getfield 9, 3) := by decide +kernel
theorem dX4_brokeOne_7 : decode cX4_brokeOne 7 = .ok (.iconst 1, 1) := by decide +kernel
theorem dX4_brokeOne_8 : decode cX4_brokeOne 8 = .ok (.iaload, 1) := by decide +kernel
theorem dX4_brokeOne_9 : decode cX4_brokeOne 9 = .ok (.if_icmp .ge 41, 3) := by decide +kernel
theorem dX4_brokeOne_12 : decode cX4_brokeOne 12 = .ok (.aload_n 0, 1) := by decide +kernel
theorem dX4_brokeOne_13 : decode cX4_brokeOne 13 = .ok (.getfield 9, 3) := by decide +kernel
theorem dX4_brokeOne_16 : decode cX4_brokeOne 16 = .ok (.iload_n 3, 1) := by decide +kernel
theorem dX4_brokeOne_17 : decode cX4_brokeOne 17 = .ok (.invokestatic 51, 3) := by decide +kernel
theorem dX4_brokeOne_20 : decode cX4_brokeOne 20 = .ok (.iconst 2, 1) := by decide +kernel
theorem dX4_brokeOne_21 : decode cX4_brokeOne 21 = .ok (.iadd, 1) := by decide +kernel
theorem dX4_brokeOne_22 : decode cX4_brokeOne 22 = .ok (.iaload, 1) := by decide +kernel
theorem dX4_brokeOne_23 : decode cX4_brokeOne 23 = .ok (.iload_n 2, 1) := by decide +kernel
theorem dX4_brokeOne_24 : decode cX4_brokeOne 24 = .ok (.if_icmp .ne 20, 3) := by decide +kernel
theorem dX4_brokeOne_27 : decode cX4_brokeOne 27 = .ok (.aload_n 0, 1) := by decide +kernel
theorem dX4_brokeOne_28 : decode cX4_brokeOne 28 = .ok (.getfield 9, 3) := by decide +kernel
theorem dX4_brokeOne_31 : decode cX4_brokeOne 31 = .ok (.iload_n 3, 1) := by decide +kernel
theorem dX4_brokeOne_32 : decode cX4_brokeOne 32 = .ok (.invokestatic 51, 3) := by decide +kernel
theorem dX4_brokeOne_35 : decode cX4_brokeOne 35 = .ok (.iconst 4, 1) := by decide +kernel
theorem dX4_brokeOne_36 : decode cX4_brokeOne 36 = .ok (.iadd, 1) := by decide +kernel
theorem dX4_brokeOne_37 : decode cX4_brokeOne 37 = .ok (.iaload, 1) := by decide +kernel
theorem dX4_brokeOne_38 : decode cX4_brokeOne 38 = .ok (.iload_n 1, 1) := by decide +kernel
theorem dX4_brokeOne_39 : decode cX4_brokeOne 39 = .ok (.if_icmp .ne 5, 3) := by decide +kernel
theorem dX4_brokeOne_42 : decode cX4_brokeOne 42 = .ok (.iconst 1, 1) := by decide +kernel
theorem dX4_brokeOne_43 : decode cX4_brokeOne 43 = .ok (.ireturn, 1) := by decide +kernel
theorem dX4_brokeOne_44 : decode cX4_brokeOne 44 = .ok (.iinc 3 1, 3) := by decide +kernel
theorem dX4_brokeOne_47 : decode cX4_brokeOne 47 = .ok (.goto (-45), 3) := by decide +kernel
theorem dX4_brokeOne_50 : decode cX4_brokeOne 50 = .ok (.iconst 0, 1) := by decide +kernel
theorem dX4_brokeOne_51 : decode cX4_brokeOne 51 = .ok (.ireturn, 1) := by decide +kernel
set_option maxRecDepth 20000 in
theorem ggX4_arrangedTwos_X4_brokeOne : GoodIn wsX4_arrangedTwos wsX4_brokeOne := goodIn_r _ [6, 1, 7, 8, 5, 9, 10, 11, 12, 13, 14, 15, 16, 17, 18, 19, 20, 21, 22, 23, 24, 25] (by decide +kernel) (by decide +kernel)
set_option maxRecDepth 20000 in
theorem gX4_arrangedTwos_X4_brokeOne : GoodIn wsX4_arrangedTwos (wsV RX4 195 RX4 yX4_brokeOne wsX4_brokeOne) := goodIn_app (goodIn_of _ (by decide +kernel)) ggX4_arrangedTwos_X4_brokeOne
theorem dX4_arrangedTwos_0 : decode cX4_arrangedTwos 0 = .ok (.iconst 0, 1) := by decide +kernel
theorem dX4_arrangedTwos_1 : decode cX4_arrangedTwos 1 = .ok (.istore_n 1, 1) := by decide +kernel
theorem dX4_arrangedTwos_2 : decode cX4_arrangedTwos 2 = .ok (.iconst 0, 1) := by decide +kernel
theorem dX4_arrangedTwos_3 : decode cX4_arrangedTwos 3 = .ok (.istore_n 2, 1) := by decide +kernel
theorem dX4_arrangedTwos_4 : decode cX4_arrangedTwos 4 = .ok (.iload_n 2, 1) := by decide +kernel
theorem dX4_arrangedTwos_5 : decode cX4_arrangedTwos 5 = .ok (.aload_n 0, 1) := by decide +kernel
theorem dX4_arrangedTwos_6 : decode cX4_arrangedTwos 6 = .ok (.getfield 9, 3) := by decide +kernel
theorem dX4_arrangedTwos_9 : decode cX4_arrangedTwos 9 = .ok (.iconst 0, 1) := by decide +kernel
theorem dX4_arrangedTwos_10 : decode cX4_arrangedTwos 10 = .ok (.iaload, 1) := by decide +kernel
theorem dX4_arrangedTwos_11 : decode cX4_arrangedTwos 11 = .ok (.if_icmp .ge 55, 3) := by decide +kernel
theorem dX4_arrangedTwos_14 : decode cX4_arrangedTwos 14 = .ok (.iload_n 2, 1) := by decide +kernel
theorem dX4_arrangedTwos_15 : decode cX4_arrangedTwos 15 = .ok (.iconst 1, 1) := by decide +kernel
theorem dX4_arrangedTwos_16 : decode cX4_arrangedTwos 16 = .ok (.iadd, 1) := by decide +kernel
theorem dX4_arrangedTwos_17 : decode cX4_arrangedTwos 17 = .ok (.istore_n 3, 1) := by decide +kernel
theorem dX4_arrangedTwos_18 : decode cX4_arrangedTwos 18 = .ok (.iload_n 3, 1) := by decide +kernel
theorem dX4_arrangedTwos_19 : decode cX4_arrangedTwos 19 = .ok (.aload_n 0, 1) := by decide +kernel
theorem dX4_arrangedTwos_20 : decode cX4_arrangedTwos 20 = .ok (.getfield 9, 3) := by decide +kernel
theorem dX4_arrangedTwos_23 : decode cX4_arrangedTwos 23 = .ok (.iconst 0, 1) := by decide +kernel
theorem dX4_arrangedTwos_24 : decode cX4_arrangedTwos 24 = .ok (.iaload, 1) := by decide +kernel
theorem dX4_arrangedTwos_25 : decode cX4_arrangedTwos 25 = .ok (.if_icmp .ge 35, 3) := by decide +kernel
theorem dX4_arrangedTwos_28 : decode cX4_arrangedTwos 28 = .ok (.iload_n 1, 1) := by decide +kernel
theorem dX4_arrangedTwos_29 : decode cX4_arrangedTwos 29 = .ok (.aload_n 0, 1) := by decide +kernel
theorem dX4_arrangedTwos_30 : decode cX4_arrangedTwos 30 = .ok (.iload_n 2, 1) := by decide +kernel
theorem dX4_arrangedTwos_31 : decode cX4_arrangedTwos 31 = .ok (.iload_n 3, 1) := by decide +kernel
theorem dX4_arrangedTwos_32 : decode cX4_arrangedTwos 32 = .ok (.invokevirtual 195, 3) := by decide +kernel
theorem dX4_arrangedTwos_35 : decode cX4_arrangedTwos 35 = .ok (.ifCond .eq 16, 3) := by decide +kernel
theorem dX4_arrangedTwos_38 : decode cX4_arrangedTwos 38 = .ok (.aload_n 0, 1) := by decide +kernel
theorem dX4_arrangedTwos_39 : decode cX4_arrangedTwos 39 = .ok (.iload_n 3, 1) := by decide +kernel
theorem dX4_arrangedTwos_40 : decode cX4_arrangedTwos 40 = .ok (.iload_n 2, 1) := by decide +kernel
theorem dX4_arrangedTwos_41 : decode cX4_arrangedTwos 41 = .ok (.invokevirtual 195, 3) := by decide +kernel
theorem dX4_arrangedTwos_44 : decode cX4_arrangedTwos 44 = .ok (.ifCond .eq 7, 3) := by decide +kernel
theorem dX4_arrangedTwos_47 : decode cX4_arrangedTwos 47 = .ok (.iconst 1, 1) := by decide +kernel
theorem dX4_arrangedTwos_48 : decode cX4_arrangedTwos 48 = .ok (.goto 4, 3) := by decide +kernel
theorem dX4_arrangedTwos_51 : decode cX4_arrangedTwos 51 = .ok (.iconst 0, 1) := by decide +kernel
theorem dX4_arrangedTwos_52 : decode cX4_arrangedTwos 52 = .ok (.iadd, 1) := by decide +kernel
theorem dX4_arrangedTwos_53 : decode cX4_arrangedTwos 53 = .ok (.istore_n 1, 1) := by decide +kernel
theorem dX4_arrangedTwos_54 : decode cX4_arrangedTwos 54 = .ok (.iinc 3 1, 3) := by decide +kernel
theorem dX4_arrangedTwos_57 : decode cX4_arrangedTwos 57 = .ok (.goto (-39), 3) := by decide +kernel
theorem dX4_arrangedTwos_60 : decode cX4_arrangedTwos 60 = .ok (.iinc 2 1, 3) := by decide +kernel
theorem dX4_arrangedTwos_63 : decode cX4_arrangedTwos 63 = .ok (.goto (-59), 3) := by decide +kernel
theorem dX4_arrangedTwos_66 : decode cX4_arrangedTwos 66 = .ok (.iload_n 1, 1) := by decide +kernel
theorem dX4_arrangedTwos_67 : decode cX4_arrangedTwos 67 = .ok (.ireturn, 1) := by decide +kernel
set_option maxRecDepth 20000 in
theorem ggX4_brokenBy_X4_ofT : GoodIn wsX4_brokenBy wsX4_ofT := goodIn_r _ [5] (by decide +kernel) (by decide +kernel)
set_option maxRecDepth 20000 in
theorem gX4_brokenBy_X4_ofT : GoodIn wsX4_brokenBy (va_wsS RX4 51 yX4_ofT wsX4_ofT) := goodIn_app (goodIn_of _ (by decide +kernel)) ggX4_brokenBy_X4_ofT
theorem dX4_brokenBy_0 : decode cX4_brokenBy 0 = .ok (.iconst 0, 1) := by decide +kernel
theorem dX4_brokenBy_1 : decode cX4_brokenBy 1 = .ok (.istore_n 2, 1) := by decide +kernel
theorem dX4_brokenBy_2 : decode cX4_brokenBy 2 = .ok (.iconst 0, 1) := by decide +kernel
theorem dX4_brokenBy_3 : decode cX4_brokenBy 3 = .ok (.istore_n 3, 1) := by decide +kernel
theorem dX4_brokenBy_4 : decode cX4_brokenBy 4 = .ok (.iload_n 3, 1) := by decide +kernel
theorem dX4_brokenBy_5 : decode cX4_brokenBy 5 = .ok (.aload_n 0, 1) := by decide +kernel
theorem dX4_brokenBy_6 : decode cX4_brokenBy 6 = .ok (.getfield 9, 3) := by decide +kernel
theorem dX4_brokenBy_9 : decode cX4_brokenBy 9 = .ok (.iconst 1, 1) := by decide +kernel
theorem dX4_brokenBy_10 : decode cX4_brokenBy 10 = .ok (.iaload, 1) := by decide +kernel
theorem dX4_brokenBy_11 : decode cX4_brokenBy 11 = .ok (.if_icmp .ge 32, 3) := by decide +kernel
theorem dX4_brokenBy_14 : decode cX4_brokenBy 14 = .ok (.iload_n 2, 1) := by decide +kernel
theorem dX4_brokenBy_15 : decode cX4_brokenBy 15 = .ok (.aload_n 0, 1) := by decide +kernel
theorem dX4_brokenBy_16 : decode cX4_brokenBy 16 = .ok (.getfield 9, 3) := by decide +kernel
theorem dX4_brokenBy_19 : decode cX4_brokenBy 19 = .ok (.iload_n 3, 1) := by decide +kernel
theorem dX4_brokenBy_20 : decode cX4_brokenBy 20 = .ok (.invokestatic 51, 3) := by decide +kernel
theorem dX4_brokenBy_23 : decode cX4_brokenBy 23 = .ok (.iconst 4, 1) := by decide +kernel
theorem dX4_brokenBy_24 : decode cX4_brokenBy 24 = .ok (.iadd, 1) := by decide +kernel
theorem dX4_brokenBy_25 : decode cX4_brokenBy 25 = .ok (.iaload, 1) := by decide +kernel
theorem dX4_brokenBy_26 : decode cX4_brokenBy 26 = .ok (.iload_n 1, 1) := by decide +kernel
theorem dX4_brokenBy_27 : decode cX4_brokenBy 27 = .ok (.if_icmp .ne 7, 3) := by decide +kernel
theorem dX4_brokenBy_30 : decode cX4_brokenBy 30 = .ok (.iconst 1, 1) := by decide +kernel
theorem dX4_brokenBy_31 : decode cX4_brokenBy 31 = .ok (.goto 4, 3) := by decide +kernel
theorem dX4_brokenBy_34 : decode cX4_brokenBy 34 = .ok (.iconst 0, 1) := by decide +kernel
theorem dX4_brokenBy_35 : decode cX4_brokenBy 35 = .ok (.iadd, 1) := by decide +kernel
theorem dX4_brokenBy_36 : decode cX4_brokenBy 36 = .ok (.istore_n 2, 1) := by decide +kernel
theorem dX4_brokenBy_37 : decode cX4_brokenBy 37 = .ok (.iinc 3 1, 3) := by decide +kernel
theorem dX4_brokenBy_40 : decode cX4_brokenBy 40 = .ok (.goto (-36), 3) := by decide +kernel
theorem dX4_brokenBy_43 : decode cX4_brokenBy 43 = .ok (.iload_n 2, 1) := by decide +kernel
theorem dX4_brokenBy_44 : decode cX4_brokenBy 44 = .ok (.ireturn, 1) := by decide +kernel
set_option maxRecDepth 20000 in
theorem ggX4_richesOf_X4_isWhole : GoodIn wsX4_richesOf wsX4_isWhole := goodIn_r _ [5, 6, 7, 4, 8] (by decide +kernel) (by decide +kernel)
set_option maxRecDepth 20000 in
theorem gX4_richesOf_X4_isWhole : GoodIn wsX4_richesOf (va_wsS RX4 72 yX4_isWhole wsX4_isWhole) := goodIn_app (goodIn_of _ (by decide +kernel)) ggX4_richesOf_X4_isWhole
set_option maxRecDepth 20000 in
theorem ggX4_richesOf_X4_ofT : GoodIn wsX4_richesOf wsX4_ofT := goodIn_r _ [8] (by decide +kernel) (by decide +kernel)
set_option maxRecDepth 20000 in
theorem gX4_richesOf_X4_ofT : GoodIn wsX4_richesOf (va_wsS RX4 51 yX4_ofT wsX4_ofT) := goodIn_app (goodIn_of _ (by decide +kernel)) ggX4_richesOf_X4_ofT
theorem dX4_richesOf_0 : decode cX4_richesOf 0 = .ok (.iconst 0, 1) := by decide +kernel
theorem dX4_richesOf_1 : decode cX4_richesOf 1 = .ok (.istore_n 2, 1) := by decide +kernel
theorem dX4_richesOf_2 : decode cX4_richesOf 2 = .ok (.iconst 0, 1) := by decide +kernel
theorem dX4_richesOf_3 : decode cX4_richesOf 3 = .ok (.istore_n 3, 1) := by decide +kernel
theorem dX4_richesOf_4 : decode cX4_richesOf 4 = .ok (.iload_n 3, 1) := by decide +kernel
theorem dX4_richesOf_5 : decode cX4_richesOf 5 = .ok (.aload_n 0, 1) := by decide +kernel
theorem dX4_richesOf_6 : decode cX4_richesOf 6 = .ok (.getfield 9, 3) := by decide +kernel
theorem dX4_richesOf_9 : decode cX4_richesOf 9 = .ok (.iconst 1, 1) := by decide +kernel
theorem dX4_richesOf_10 : decode cX4_richesOf 10 = .ok (.iaload, 1) := by decide +kernel
theorem dX4_richesOf_11 : decode cX4_richesOf 11 = .ok (.if_icmp .ge 53, 3) := by decide +kernel
theorem dX4_richesOf_14 : decode cX4_richesOf 14 = .ok (.iload_n 2, 1) := by decide +kernel
theorem dX4_richesOf_15 : decode cX4_richesOf 15 = .ok (.aload_n 0, 1) := by decide +kernel
theorem dX4_richesOf_16 : decode cX4_richesOf 16 = .ok (.getfield 9, 3) := by decide +kernel
theorem dX4_richesOf_19 : decode cX4_richesOf 19 = .ok (.iload_n 3, 1) := by decide +kernel
theorem dX4_richesOf_20 : decode cX4_richesOf 20 = .ok (.invokestatic 72, 3) := by decide +kernel
theorem dX4_richesOf_23 : decode cX4_richesOf 23 = .ok (.ifCond .eq 32, 3) := by decide +kernel
theorem dX4_richesOf_26 : decode cX4_richesOf 26 = .ok (.aload_n 0, 1) := by decide +kernel
theorem dX4_richesOf_27 : decode cX4_richesOf 27 = .ok (.getfield 9, 3) := by decide +kernel
theorem dX4_richesOf_30 : decode cX4_richesOf 30 = .ok (.iload_n 3, 1) := by decide +kernel
theorem dX4_richesOf_31 : decode cX4_richesOf 31 = .ok (.invokestatic 51, 3) := by decide +kernel
theorem dX4_richesOf_34 : decode cX4_richesOf 34 = .ok (.iconst 2, 1) := by decide +kernel
theorem dX4_richesOf_35 : decode cX4_richesOf 35 = .ok (.iadd, 1) := by decide +kernel
theorem dX4_richesOf_36 : decode cX4_richesOf 36 = .ok (.iaload, 1) := by decide +kernel
theorem dX4_richesOf_37 : decode cX4_richesOf 37 = .ok (.iload_n 1, 1) := by decide +kernel
theorem dX4_richesOf_38 : decode cX4_richesOf 38 = .ok (.if_icmp .ne 17, 3) := by decide +kernel
theorem dX4_richesOf_41 : decode cX4_richesOf 41 = .ok (.aload_n 0, 1) := by decide +kernel
theorem dX4_richesOf_42 : decode cX4_richesOf 42 = .ok (.getfield 9, 3) := by decide +kernel
theorem dX4_richesOf_45 : decode cX4_richesOf 45 = .ok (.iload_n 3, 1) := by decide +kernel
theorem dX4_richesOf_46 : decode cX4_richesOf 46 = .ok (.invokestatic 51, 3) := by decide +kernel
theorem dX4_richesOf_49 : decode cX4_richesOf 49 = .ok (.iconst 1, 1) := by decide +kernel
theorem dX4_richesOf_50 : decode cX4_richesOf 50 = .ok (.iadd, 1) := by decide +kernel
theorem dX4_richesOf_51 : decode cX4_richesOf 51 = .ok (.iaload, 1) := by decide +kernel
theorem dX4_richesOf_52 : decode cX4_richesOf 52 = .ok (.goto 4, 3) := by decide +kernel
theorem dX4_richesOf_55 : decode cX4_richesOf 55 = .ok (.iconst 0, 1) := by decide +kernel
theorem dX4_richesOf_56 : decode cX4_richesOf 56 = .ok (.iadd, 1) := by decide +kernel
theorem dX4_richesOf_57 : decode cX4_richesOf 57 = .ok (.istore_n 2, 1) := by decide +kernel
theorem dX4_richesOf_58 : decode cX4_richesOf 58 = .ok (.iinc 3 1, 3) := by decide +kernel
theorem dX4_richesOf_61 : decode cX4_richesOf 61 = .ok (.goto (-57), 3) := by decide +kernel
theorem dX4_richesOf_64 : decode cX4_richesOf 64 = .ok (.iload_n 2, 1) := by decide +kernel
theorem dX4_richesOf_65 : decode cX4_richesOf 65 = .ok (.ireturn, 1) := by decide +kernel
set_option maxRecDepth 20000 in
theorem ggX4_arranged_X4_isIn : GoodIn wsX4_arranged wsX4_isIn := goodIn_r _ [5] (by decide +kernel) (by decide +kernel)
set_option maxRecDepth 20000 in
theorem gX4_arranged_X4_isIn : GoodIn wsX4_arranged (va_wsS RX4 47 yX4_isIn wsX4_isIn) := goodIn_app (goodIn_of _ (by decide +kernel)) ggX4_arranged_X4_isIn
set_option maxRecDepth 20000 in
theorem ggX4_arranged_X4_no : GoodIn wsX4_arranged wsX4_no := goodIn_r _ [9, 10, 33, 34, 35, 36, 37, 38, 39, 40, 41, 42, 43, 44, 45, 46, 47, 48] (by decide +kernel) (by decide +kernel)
set_option maxRecDepth 20000 in
theorem gX4_arranged_X4_no : GoodIn wsX4_arranged (wsV RX4 41 RX4 yX4_no wsX4_no) := goodIn_app (goodIn_of _ (by decide +kernel)) ggX4_arranged_X4_no
set_option maxRecDepth 20000 in
theorem ggX4_arranged_X4_arrangedTwos : GoodIn wsX4_arranged wsX4_arrangedTwos := goodIn_r _ [14, 1, 15, 16, 17, 4, 18, 19, 20, 21, 33, 34, 35, 36, 37, 38, 39, 40, 41, 42, 43, 44, 45, 46, 47, 48] (by decide +kernel) (by decide +kernel)
set_option maxRecDepth 20000 in
theorem gX4_arranged_X4_arrangedTwos : GoodIn wsX4_arranged (wsV RX4 198 RX4 yX4_arrangedTwos wsX4_arrangedTwos) := goodIn_app (goodIn_of _ (by decide +kernel)) ggX4_arranged_X4_arrangedTwos
set_option maxRecDepth 20000 in
theorem ggX4_arranged_X4_brokenBy : GoodIn wsX4_arranged wsX4_brokenBy := goodIn_r _ [25, 1, 19, 20, 4, 21, 33, 34, 35, 36, 37, 38, 39, 40, 41, 42, 43, 44, 45, 46, 47, 48] (by decide +kernel) (by decide +kernel)
set_option maxRecDepth 20000 in
theorem gX4_arranged_X4_brokenBy : GoodIn wsX4_arranged (wsV RX4 201 RX4 yX4_brokenBy wsX4_brokenBy) := goodIn_app (goodIn_of _ (by decide +kernel)) ggX4_arranged_X4_brokenBy
set_option maxRecDepth 20000 in
theorem ggX4_arranged_X4_richesOf : GoodIn wsX4_arranged wsX4_richesOf := goodIn_r _ [29, 1, 30, 31, 4, 32, 19, 20, 21, 33, 34, 35, 36, 37, 38, 39, 40, 41, 42, 43, 44, 45, 46, 47, 48] (by decide +kernel) (by decide +kernel)
set_option maxRecDepth 20000 in
theorem gX4_arranged_X4_richesOf : GoodIn wsX4_arranged (wsV RX4 204 RX4 yX4_richesOf wsX4_richesOf) := goodIn_app (goodIn_of _ (by decide +kernel)) ggX4_arranged_X4_richesOf
theorem dX4_arranged_0 : decode cX4_arranged 0 = .ok (.iload_n 1, 1) := by decide +kernel
theorem dX4_arranged_1 : decode cX4_arranged 1 = .ok (.iconst 0, 1) := by decide +kernel
theorem dX4_arranged_2 : decode cX4_arranged 2 = .ok (.iconst 2, 1) := by decide +kernel
theorem dX4_arranged_3 : decode cX4_arranged 3 = .ok (.invokestatic 47, 3) := by decide +kernel
theorem dX4_arranged_6 : decode cX4_arranged 6 = .ok (.ifCond .ne 10, 3) := by decide +kernel
theorem dX4_arranged_9 : decode cX4_arranged 9 = .ok (.aload_n 0, 1) := by decide +kernel
theorem dX4_arranged_10 : decode cX4_arranged 10 = .ok (.bipush (-2), 2) := by decide +kernel
theorem dX4_arranged_12 : decode cX4_arranged 12 = .ok (.invokevirtual 41, 3) := by decide +kernel
theorem dX4_arranged_15 : decode cX4_arranged 15 = .ok (.ireturn, 1) := by decide +kernel
theorem dX4_arranged_16 : decode cX4_arranged 16 = .ok (.iload_n 1, 1) := by decide +kernel
theorem dX4_arranged_17 : decode cX4_arranged 17 = .ok (.ifCond .ne 8, 3) := by decide +kernel
theorem dX4_arranged_20 : decode cX4_arranged 20 = .ok (.aload_n 0, 1) := by decide +kernel
theorem dX4_arranged_21 : decode cX4_arranged 21 = .ok (.invokevirtual 198, 3) := by decide +kernel
theorem dX4_arranged_24 : decode cX4_arranged 24 = .ok (.ireturn, 1) := by decide +kernel
theorem dX4_arranged_25 : decode cX4_arranged 25 = .ok (.bipush (-9), 2) := by decide +kernel
theorem dX4_arranged_27 : decode cX4_arranged 27 = .ok (.istore_n 2, 1) := by decide +kernel
theorem dX4_arranged_28 : decode cX4_arranged 28 = .ok (.iload_n 1, 1) := by decide +kernel
theorem dX4_arranged_29 : decode cX4_arranged 29 = .ok (.iconst 1, 1) := by decide +kernel
theorem dX4_arranged_30 : decode cX4_arranged 30 = .ok (.if_icmp .ne 7, 3) := by decide +kernel
theorem dX4_arranged_33 : decode cX4_arranged 33 = .ok (.iconst 0, 1) := by decide +kernel
theorem dX4_arranged_34 : decode cX4_arranged 34 = .ok (.goto 4, 3) := by decide +kernel
theorem dX4_arranged_37 : decode cX4_arranged 37 = .ok (.iconst (-1), 1) := by decide +kernel
theorem dX4_arranged_38 : decode cX4_arranged 38 = .ok (.istore_n 3, 1) := by decide +kernel
theorem dX4_arranged_39 : decode cX4_arranged 39 = .ok (.iconst 0, 1) := by decide +kernel
theorem dX4_arranged_40 : decode cX4_arranged 40 = .ok (.istore 4, 2) := by decide +kernel
theorem dX4_arranged_42 : decode cX4_arranged 42 = .ok (.iload 4, 2) := by decide +kernel
theorem dX4_arranged_44 : decode cX4_arranged 44 = .ok (.aload_n 0, 1) := by decide +kernel
theorem dX4_arranged_45 : decode cX4_arranged 45 = .ok (.getfield 9, 3) := by decide +kernel
theorem dX4_arranged_48 : decode cX4_arranged 48 = .ok (.iconst 0, 1) := by decide +kernel
theorem dX4_arranged_49 : decode cX4_arranged 49 = .ok (.iaload, 1) := by decide +kernel
theorem dX4_arranged_50 : decode cX4_arranged 50 = .ok (.if_icmp .ge 46, 3) := by decide +kernel
theorem dX4_arranged_53 : decode cX4_arranged 53 = .ok (.iload_n 1, 1) := by decide +kernel
theorem dX4_arranged_54 : decode cX4_arranged 54 = .ok (.iconst 1, 1) := by decide +kernel
theorem dX4_arranged_55 : decode cX4_arranged 55 = .ok (.if_icmp .ne 12, 3) := by decide +kernel
theorem dX4_arranged_58 : decode cX4_arranged 58 = .ok (.aload_n 0, 1) := by decide +kernel
theorem dX4_arranged_59 : decode cX4_arranged 59 = .ok (.iload 4, 2) := by decide +kernel
theorem dX4_arranged_61 : decode cX4_arranged 61 = .ok (.invokevirtual 201, 3) := by decide +kernel
theorem dX4_arranged_64 : decode cX4_arranged 64 = .ok (.goto 9, 3) := by decide +kernel
theorem dX4_arranged_67 : decode cX4_arranged 67 = .ok (.aload_n 0, 1) := by decide +kernel
theorem dX4_arranged_68 : decode cX4_arranged 68 = .ok (.iload 4, 2) := by decide +kernel
theorem dX4_arranged_70 : decode cX4_arranged 70 = .ok (.invokevirtual 204, 3) := by decide +kernel
theorem dX4_arranged_73 : decode cX4_arranged 73 = .ok (.istore 5, 2) := by decide +kernel
theorem dX4_arranged_75 : decode cX4_arranged 75 = .ok (.iload 5, 2) := by decide +kernel
theorem dX4_arranged_77 : decode cX4_arranged 77 = .ok (.iload_n 3, 1) := by decide +kernel
theorem dX4_arranged_78 : decode cX4_arranged 78 = .ok (.if_icmp .gt 6, 3) := by decide +kernel
theorem dX4_arranged_81 : decode cX4_arranged 81 = .ok (.goto 9, 3) := by decide +kernel
theorem dX4_arranged_84 : decode cX4_arranged 84 = .ok (.iload 4, 2) := by decide +kernel
theorem dX4_arranged_86 : decode cX4_arranged 86 = .ok (.istore_n 2, 1) := by decide +kernel
theorem dX4_arranged_87 : decode cX4_arranged 87 = .ok (.iload 5, 2) := by decide +kernel
theorem dX4_arranged_89 : decode cX4_arranged 89 = .ok (.istore_n 3, 1) := by decide +kernel
theorem dX4_arranged_90 : decode cX4_arranged 90 = .ok (.iinc 4 1, 3) := by decide +kernel
theorem dX4_arranged_93 : decode cX4_arranged 93 = .ok (.goto (-51), 3) := by decide +kernel
theorem dX4_arranged_96 : decode cX4_arranged 96 = .ok (.iload_n 2, 1) := by decide +kernel
theorem dX4_arranged_97 : decode cX4_arranged 97 = .ok (.ireturn, 1) := by decide +kernel
set_option maxRecDepth 20000 in
theorem ggX4_breaksLeast_X4_isWhole : GoodIn wsX4_breaksLeast wsX4_isWhole := goodIn_r _ [5, 6, 7, 4, 8] (by decide +kernel) (by decide +kernel)
set_option maxRecDepth 20000 in
theorem gX4_breaksLeast_X4_isWhole : GoodIn wsX4_breaksLeast (va_wsS RX4 72 yX4_isWhole wsX4_isWhole) := goodIn_app (goodIn_of _ (by decide +kernel)) ggX4_breaksLeast_X4_isWhole
set_option maxRecDepth 20000 in
theorem ggX4_breaksLeast_X4_ofT : GoodIn wsX4_breaksLeast wsX4_ofT := goodIn_r _ [8] (by decide +kernel) (by decide +kernel)
set_option maxRecDepth 20000 in
theorem gX4_breaksLeast_X4_ofT : GoodIn wsX4_breaksLeast (va_wsS RX4 51 yX4_ofT wsX4_ofT) := goodIn_app (goodIn_of _ (by decide +kernel)) ggX4_breaksLeast_X4_ofT
theorem dX4_breaksLeast_0 : decode cX4_breaksLeast 0 = .ok (.iconst 0, 1) := by decide +kernel
theorem dX4_breaksLeast_1 : decode cX4_breaksLeast 1 = .ok (.istore_n 3, 1) := by decide +kernel
theorem dX4_breaksLeast_2 : decode cX4_breaksLeast 2 = .ok (.iload_n 3, 1) := by decide +kernel
theorem dX4_breaksLeast_3 : decode cX4_breaksLeast 3 = .ok (.aload_n 0, 1) := by decide +kernel
theorem dX4_breaksLeast_4 : decode cX4_breaksLeast 4 = .ok (.getfield 13, 3) := by decide +kernel
theorem dX4_breaksLeast_7 : decode cX4_breaksLeast 7 = .ok (.iconst 1, 1) := by decide +kernel
theorem dX4_breaksLeast_8 : decode cX4_breaksLeast 8 = .ok (.iaload, 1) := by decide +kernel
theorem dX4_breaksLeast_9 : decode cX4_breaksLeast 9 = .ok (.if_icmp .ge 51, 3) := by decide +kernel
theorem dX4_breaksLeast_12 : decode cX4_breaksLeast 12 = .ok (.aload_n 0, 1) := by decide +kernel
theorem dX4_breaksLeast_13 : decode cX4_breaksLeast 13 = .ok (.getfield 13, 3) := by decide +kernel
theorem dX4_breaksLeast_16 : decode cX4_breaksLeast 16 = .ok (.iload_n 3, 1) := by decide +kernel
theorem dX4_breaksLeast_17 : decode cX4_breaksLeast 17 = .ok (.invokestatic 72, 3) := by decide +kernel
theorem dX4_breaksLeast_20 : decode cX4_breaksLeast 20 = .ok (.ifCond .eq 34, 3) := by decide +kernel
theorem dX4_breaksLeast_23 : decode cX4_breaksLeast 23 = .ok (.aload_n 0, 1) := by decide +kernel
theorem dX4_breaksLeast_24 : decode cX4_breaksLeast 24 = .ok (.getfield 13, 3) := by decide +kernel
theorem dX4_breaksLeast_27 : decode cX4_breaksLeast 27 = .ok (.iload_n 3, 1) := by decide +kernel
theorem dX4_breaksLeast_28 : decode cX4_breaksLeast 28 = .ok (.invokestatic 51, 3) := by decide +kernel
theorem dX4_breaksLeast_31 : decode cX4_breaksLeast 31 = .ok (.iconst 2, 1) := by decide +kernel
theorem dX4_breaksLeast_32 : decode cX4_breaksLeast 32 = .ok (.iadd, 1) := by decide +kernel
theorem dX4_breaksLeast_33 : decode cX4_breaksLeast 33 = .ok (.iaload, 1) := by decide +kernel
theorem dX4_breaksLeast_34 : decode cX4_breaksLeast 34 = .ok (.iload_n 2, 1) := by decide +kernel
theorem dX4_breaksLeast_35 : decode cX4_breaksLeast 35 = .ok (.if_icmp .eq 6, 3) := by decide +kernel
theorem dX4_breaksLeast_38 : decode cX4_breaksLeast 38 = .ok (.goto 16, 3) := by decide +kernel
theorem dX4_breaksLeast_41 : decode cX4_breaksLeast 41 = .ok (.aload_n 0, 1) := by decide +kernel
theorem dX4_breaksLeast_42 : decode cX4_breaksLeast 42 = .ok (.getfield 13, 3) := by decide +kernel
theorem dX4_breaksLeast_45 : decode cX4_breaksLeast 45 = .ok (.iload_n 3, 1) := by decide +kernel
theorem dX4_breaksLeast_46 : decode cX4_breaksLeast 46 = .ok (.invokestatic 51, 3) := by decide +kernel
theorem dX4_breaksLeast_49 : decode cX4_breaksLeast 49 = .ok (.iconst 4, 1) := by decide +kernel
theorem dX4_breaksLeast_50 : decode cX4_breaksLeast 50 = .ok (.iadd, 1) := by decide +kernel
theorem dX4_breaksLeast_51 : decode cX4_breaksLeast 51 = .ok (.iload_n 1, 1) := by decide +kernel
theorem dX4_breaksLeast_52 : decode cX4_breaksLeast 52 = .ok (.iastore, 1) := by decide +kernel
theorem dX4_breaksLeast_53 : decode cX4_breaksLeast 53 = .ok (.return_, 1) := by decide +kernel
theorem dX4_breaksLeast_54 : decode cX4_breaksLeast 54 = .ok (.iinc 3 1, 3) := by decide +kernel
theorem dX4_breaksLeast_57 : decode cX4_breaksLeast 57 = .ok (.goto (-55), 3) := by decide +kernel
theorem dX4_breaksLeast_60 : decode cX4_breaksLeast 60 = .ok (.return_, 1) := by decide +kernel
set_option maxRecDepth 20000 in
theorem ggX4_ownBy_X4_copies : GoodIn wsX4_ownBy wsX4_copies := goodIn_r _ [6] (by decide +kernel) (by decide +kernel)
set_option maxRecDepth 20000 in
theorem gX4_ownBy_X4_copies : GoodIn wsX4_ownBy (va_wsS RX4 139 yX4_copies wsX4_copies) := goodIn_app (goodIn_of _ (by decide +kernel)) ggX4_ownBy_X4_copies
set_option maxRecDepth 20000 in
theorem ggX4_ownBy_X4_breaksLeast : GoodIn wsX4_ownBy wsX4_breaksLeast := goodIn_r _ [10, 2, 11, 12, 5, 13, 14, 15, 16, 47, 48, 49, 50, 51, 52, 53, 54, 55, 56, 57, 58, 59, 60, 61, 62] (by decide +kernel) (by decide +kernel)
set_option maxRecDepth 20000 in
theorem gX4_ownBy_X4_breaksLeast : GoodIn wsX4_ownBy (wsV RX4 207 RX4 yX4_breaksLeast wsX4_breaksLeast) := goodIn_app (goodIn_of _ (by decide +kernel)) ggX4_ownBy_X4_breaksLeast
set_option maxRecDepth 20000 in
theorem ggX4_ownBy_X4_daysOn : GoodIn wsX4_ownBy wsX4_daysOn := goodIn_r _ [19, 20, 21, 5, 22, 11, 12, 13, 14, 15, 16, 23, 24, 25, 26, 27, 28, 29, 30, 31, 32, 33, 34, 35, 36, 37, 38, 39, 40, 41, 42, 43, 44, 45, 46] (by decide +kernel) (by decide +kernel)
set_option maxRecDepth 20000 in
theorem gX4_ownBy_X4_daysOn : GoodIn wsX4_ownBy (va_wsS RX4 91 yX4_daysOn wsX4_daysOn) := goodIn_app (goodIn_of _ (by decide +kernel)) ggX4_ownBy_X4_daysOn
set_option maxRecDepth 20000 in
theorem ggX4_ownBy_X4_isWhole : GoodIn wsX4_ownBy wsX4_isWhole := goodIn_r _ [13, 14, 15, 5, 16] (by decide +kernel) (by decide +kernel)
set_option maxRecDepth 20000 in
theorem gX4_ownBy_X4_isWhole : GoodIn wsX4_ownBy (va_wsS RX4 72 yX4_isWhole wsX4_isWhole) := goodIn_app (goodIn_of _ (by decide +kernel)) ggX4_ownBy_X4_isWhole
set_option maxRecDepth 20000 in
theorem ggX4_ownBy_X4_ofT : GoodIn wsX4_ownBy wsX4_ofT := goodIn_r _ [16] (by decide +kernel) (by decide +kernel)
set_option maxRecDepth 20000 in
theorem gX4_ownBy_X4_ofT : GoodIn wsX4_ownBy (va_wsS RX4 51 yX4_ofT wsX4_ofT) := goodIn_app (goodIn_of _ (by decide +kernel)) ggX4_ownBy_X4_ofT
theorem dX4_ownBy_0 : decode cX4_ownBy 0 = .ok (.aload_n 0, 1) := by decide +kernel
theorem dX4_ownBy_1 : decode cX4_ownBy 1 = .ok (.getfield 9, 3) := by decide +kernel
theorem dX4_ownBy_4 : decode cX4_ownBy 4 = .ok (.aload_n 0, 1) := by decide +kernel
theorem dX4_ownBy_5 : decode cX4_ownBy 5 = .ok (.getfield 13, 3) := by decide +kernel
theorem dX4_ownBy_8 : decode cX4_ownBy 8 = .ok (.invokestatic 139, 3) := by decide +kernel
theorem dX4_ownBy_11 : decode cX4_ownBy 11 = .ok (.iload_n 3, 1) := by decide +kernel
theorem dX4_ownBy_12 : decode cX4_ownBy 12 = .ok (.iconst 1, 1) := by decide +kernel
theorem dX4_ownBy_13 : decode cX4_ownBy 13 = .ok (.if_icmp .ne 10, 3) := by decide +kernel
theorem dX4_ownBy_16 : decode cX4_ownBy 16 = .ok (.aload_n 0, 1) := by decide +kernel
theorem dX4_ownBy_17 : decode cX4_ownBy 17 = .ok (.iload_n 2, 1) := by decide +kernel
theorem dX4_ownBy_18 : decode cX4_ownBy 18 = .ok (.iload 4, 2) := by decide +kernel
theorem dX4_ownBy_20 : decode cX4_ownBy 20 = .ok (.invokevirtual 207, 3) := by decide +kernel
theorem dX4_ownBy_23 : decode cX4_ownBy 23 = .ok (.iload 5, 2) := by decide +kernel
theorem dX4_ownBy_25 : decode cX4_ownBy 25 = .ok (.iconst 1, 1) := by decide +kernel
theorem dX4_ownBy_26 : decode cX4_ownBy 26 = .ok (.if_icmp .ne 10, 3) := by decide +kernel
theorem dX4_ownBy_29 : decode cX4_ownBy 29 = .ok (.aload_n 0, 1) := by decide +kernel
theorem dX4_ownBy_30 : decode cX4_ownBy 30 = .ok (.iload 4, 2) := by decide +kernel
theorem dX4_ownBy_32 : decode cX4_ownBy 32 = .ok (.iload_n 2, 1) := by decide +kernel
theorem dX4_ownBy_33 : decode cX4_ownBy 33 = .ok (.invokevirtual 207, 3) := by decide +kernel
theorem dX4_ownBy_36 : decode cX4_ownBy 36 = .ok (.aload_n 0, 1) := by decide +kernel
theorem dX4_ownBy_37 : decode cX4_ownBy 37 = .ok (.getfield 13, 3) := by decide +kernel
theorem dX4_ownBy_40 : decode cX4_ownBy 40 = .ok (.iload 6, 2) := by decide +kernel
theorem dX4_ownBy_42 : decode cX4_ownBy 42 = .ok (.invokestatic 91, 3) := by decide +kernel
theorem dX4_ownBy_45 : decode cX4_ownBy 45 = .ok (.iconst 0, 1) := by decide +kernel
theorem dX4_ownBy_46 : decode cX4_ownBy 46 = .ok (.istore 7, 2) := by decide +kernel
theorem dX4_ownBy_48 : decode cX4_ownBy 48 = .ok (.iconst 0, 1) := by decide +kernel
theorem dX4_ownBy_49 : decode cX4_ownBy 49 = .ok (.istore 8, 2) := by decide +kernel
theorem dX4_ownBy_51 : decode cX4_ownBy 51 = .ok (.iload 8, 2) := by decide +kernel
theorem dX4_ownBy_53 : decode cX4_ownBy 53 = .ok (.aload_n 0, 1) := by decide +kernel
theorem dX4_ownBy_54 : decode cX4_ownBy 54 = .ok (.getfield 13, 3) := by decide +kernel
theorem dX4_ownBy_57 : decode cX4_ownBy 57 = .ok (.iconst 1, 1) := by decide +kernel
theorem dX4_ownBy_58 : decode cX4_ownBy 58 = .ok (.iaload, 1) := by decide +kernel
theorem dX4_ownBy_59 : decode cX4_ownBy 59 = .ok (.if_icmp .ge 47, 3) := by decide +kernel
theorem dX4_ownBy_62 : decode cX4_ownBy 62 = .ok (.iload 7, 2) := by decide +kernel
theorem dX4_ownBy_64 : decode cX4_ownBy 64 = .ok (.aload_n 0, 1) := by decide +kernel
theorem dX4_ownBy_65 : decode cX4_ownBy 65 = .ok (.getfield 13, 3) := by decide +kernel
theorem dX4_ownBy_68 : decode cX4_ownBy 68 = .ok (.iload 8, 2) := by decide +kernel
theorem dX4_ownBy_70 : decode cX4_ownBy 70 = .ok (.invokestatic 72, 3) := by decide +kernel
theorem dX4_ownBy_73 : decode cX4_ownBy 73 = .ok (.ifCond .eq 23, 3) := by decide +kernel
theorem dX4_ownBy_76 : decode cX4_ownBy 76 = .ok (.aload_n 0, 1) := by decide +kernel
theorem dX4_ownBy_77 : decode cX4_ownBy 77 = .ok (.getfield 13, 3) := by decide +kernel
theorem dX4_ownBy_80 : decode cX4_ownBy 80 = .ok (.iload 8, 2) := by decide +kernel
theorem dX4_ownBy_82 : decode cX4_ownBy 82 = .ok (.invokestatic 51, 3) := by decide +kernel
theorem dX4_ownBy_85 : decode cX4_ownBy 85 = .ok (.iconst 2, 1) := by decide +kernel
theorem dX4_ownBy_86 : decode cX4_ownBy 86 = .ok (.iadd, 1) := by decide +kernel
theorem dX4_ownBy_87 : decode cX4_ownBy 87 = .ok (.iaload, 1) := by decide +kernel
theorem dX4_ownBy_88 : decode cX4_ownBy 88 = .ok (.iload_n 1, 1) := by decide +kernel
theorem dX4_ownBy_89 : decode cX4_ownBy 89 = .ok (.if_icmp .ne 7, 3) := by decide +kernel
theorem dX4_ownBy_92 : decode cX4_ownBy 92 = .ok (.iconst 1, 1) := by decide +kernel
theorem dX4_ownBy_93 : decode cX4_ownBy 93 = .ok (.goto 4, 3) := by decide +kernel
theorem dX4_ownBy_96 : decode cX4_ownBy 96 = .ok (.iconst 0, 1) := by decide +kernel
theorem dX4_ownBy_97 : decode cX4_ownBy 97 = .ok (.iadd, 1) := by decide +kernel
theorem dX4_ownBy_98 : decode cX4_ownBy 98 = .ok (.istore 7, 2) := by decide +kernel
theorem dX4_ownBy_100 : decode cX4_ownBy 100 = .ok (.iinc 8 1, 3) := by decide +kernel
theorem dX4_ownBy_103 : decode cX4_ownBy 103 = .ok (.goto (-52), 3) := by decide +kernel
theorem dX4_ownBy_106 : decode cX4_ownBy 106 = .ok (.iload 7, 2) := by decide +kernel
theorem dX4_ownBy_108 : decode cX4_ownBy 108 = .ok (.ireturn, 1) := by decide +kernel
set_option maxRecDepth 20000 in
theorem ggX4_two_X4_isPerson : GoodIn wsX4_two wsX4_isPerson := goodIn_r _ [5, 6, 7, 8, 4, 9, 66, 67, 68, 69, 70, 71, 72, 73, 74, 75, 76, 77, 78, 79, 80, 81] (by decide +kernel) (by decide +kernel)
set_option maxRecDepth 20000 in
theorem gX4_two_X4_isPerson : GoodIn wsX4_two (wsV RX4 123 RX4 yX4_isPerson wsX4_isPerson) := goodIn_app (goodIn_of _ (by decide +kernel)) ggX4_two_X4_isPerson
set_option maxRecDepth 20000 in
theorem ggX4_two_X4_wrongBy : GoodIn wsX4_two wsX4_wrongBy := goodIn_r _ [12] (by decide +kernel) (by decide +kernel)
set_option maxRecDepth 20000 in
theorem gX4_two_X4_wrongBy : GoodIn wsX4_two (va_wsS RX4 153 yX4_wrongBy wsX4_wrongBy) := goodIn_app (goodIn_of _ (by decide +kernel)) ggX4_two_X4_wrongBy
set_option maxRecDepth 20000 in
theorem ggX4_two_X4_no : GoodIn wsX4_two wsX4_no := goodIn_r _ [16, 17, 66, 67, 68, 69, 70, 71, 72, 73, 74, 75, 76, 77, 78, 79, 80, 81] (by decide +kernel) (by decide +kernel)
set_option maxRecDepth 20000 in
theorem gX4_two_X4_no : GoodIn wsX4_two (wsV RX4 41 RX4 yX4_no wsX4_no) := goodIn_app (goodIn_of _ (by decide +kernel)) ggX4_two_X4_no
set_option maxRecDepth 20000 in
theorem ggX4_two_X4_ownBy : GoodIn wsX4_two wsX4_ownBy := goodIn_r _ [21, 6, 22, 23, 24, 4, 25, 26, 27, 28, 29, 30, 31, 32, 33, 34, 35, 36, 37, 38, 39, 40, 41, 42, 43, 44, 45, 46, 47, 48, 49, 50, 51, 52, 53, 54, 55, 56, 57, 58, 59, 60, 61, 62, 63, 64, 65, 66, 67, 68, 69, 70, 71, 72, 73, 74, 75, 76, 77, 78, 79, 80, 81] (by decide +kernel) (by decide +kernel)
set_option maxRecDepth 20000 in
theorem gX4_two_X4_ownBy : GoodIn wsX4_two (wsV RX4 211 RX4 yX4_ownBy wsX4_ownBy) := goodIn_app (goodIn_of _ (by decide +kernel)) ggX4_two_X4_ownBy
theorem dX4_two_0 : decode cX4_two 0 = .ok (.aload_n 0, 1) := by decide +kernel
theorem dX4_two_1 : decode cX4_two 1 = .ok (.iload_n 1, 1) := by decide +kernel
theorem dX4_two_2 : decode cX4_two 2 = .ok (.invokevirtual 123, 3) := by decide +kernel
theorem dX4_two_5 : decode cX4_two 5 = .ok (.ifCond .eq 16, 3) := by decide +kernel
theorem dX4_two_8 : decode cX4_two 8 = .ok (.aload_n 0, 1) := by decide +kernel
theorem dX4_two_9 : decode cX4_two 9 = .ok (.iload_n 2, 1) := by decide +kernel
theorem dX4_two_10 : decode cX4_two 10 = .ok (.invokevirtual 123, 3) := by decide +kernel
theorem dX4_two_13 : decode cX4_two 13 = .ok (.ifCond .eq 8, 3) := by decide +kernel
theorem dX4_two_16 : decode cX4_two 16 = .ok (.iload_n 1, 1) := by decide +kernel
theorem dX4_two_17 : decode cX4_two 17 = .ok (.iload_n 2, 1) := by decide +kernel
theorem dX4_two_18 : decode cX4_two 18 = .ok (.if_icmp .ne 7, 3) := by decide +kernel
theorem dX4_two_21 : decode cX4_two 21 = .ok (.iconst (-1), 1) := by decide +kernel
theorem dX4_two_22 : decode cX4_two 22 = .ok (.goto 9, 3) := by decide +kernel
theorem dX4_two_25 : decode cX4_two 25 = .ok (.iload_n 3, 1) := by decide +kernel
theorem dX4_two_26 : decode cX4_two 26 = .ok (.bipush 99, 2) := by decide +kernel
theorem dX4_two_28 : decode cX4_two 28 = .ok (.invokestatic 153, 3) := by decide +kernel
theorem dX4_two_31 : decode cX4_two 31 = .ok (.istore 4, 2) := by decide +kernel
theorem dX4_two_33 : decode cX4_two 33 = .ok (.iload 4, 2) := by decide +kernel
theorem dX4_two_35 : decode cX4_two 35 = .ok (.ifCond .eq 10, 3) := by decide +kernel
theorem dX4_two_38 : decode cX4_two 38 = .ok (.aload_n 0, 1) := by decide +kernel
theorem dX4_two_39 : decode cX4_two 39 = .ok (.iload 4, 2) := by decide +kernel
theorem dX4_two_41 : decode cX4_two 41 = .ok (.invokevirtual 41, 3) := by decide +kernel
theorem dX4_two_44 : decode cX4_two 44 = .ok (.ireturn, 1) := by decide +kernel
theorem dX4_two_45 : decode cX4_two 45 = .ok (.iconst 0, 1) := by decide +kernel
theorem dX4_two_46 : decode cX4_two 46 = .ok (.istore 5, 2) := by decide +kernel
theorem dX4_two_48 : decode cX4_two 48 = .ok (.iload 5, 2) := by decide +kernel
theorem dX4_two_50 : decode cX4_two 50 = .ok (.iconst 4, 1) := by decide +kernel
theorem dX4_two_51 : decode cX4_two 51 = .ok (.if_icmp .ge 88, 3) := by decide +kernel
theorem dX4_two_54 : decode cX4_two 54 = .ok (.iload 5, 2) := by decide +kernel
theorem dX4_two_56 : decode cX4_two 56 = .ok (.iconst 2, 1) := by decide +kernel
theorem dX4_two_57 : decode cX4_two 57 = .ok (.idiv, 1) := by decide +kernel
theorem dX4_two_58 : decode cX4_two 58 = .ok (.istore 6, 2) := by decide +kernel
theorem dX4_two_60 : decode cX4_two 60 = .ok (.iload 5, 2) := by decide +kernel
theorem dX4_two_62 : decode cX4_two 62 = .ok (.iconst 2, 1) := by decide +kernel
theorem dX4_two_63 : decode cX4_two 63 = .ok (.irem, 1) := by decide +kernel
theorem dX4_two_64 : decode cX4_two 64 = .ok (.istore 7, 2) := by decide +kernel
theorem dX4_two_66 : decode cX4_two 66 = .ok (.aload_n 0, 1) := by decide +kernel
theorem dX4_two_67 : decode cX4_two 67 = .ok (.iload_n 1, 1) := by decide +kernel
theorem dX4_two_68 : decode cX4_two 68 = .ok (.iload_n 1, 1) := by decide +kernel
theorem dX4_two_69 : decode cX4_two 69 = .ok (.iconst 1, 1) := by decide +kernel
theorem dX4_two_70 : decode cX4_two 70 = .ok (.iload 6, 2) := by decide +kernel
theorem dX4_two_72 : decode cX4_two 72 = .ok (.isub, 1) := by decide +kernel
theorem dX4_two_73 : decode cX4_two 73 = .ok (.iload_n 2, 1) := by decide +kernel
theorem dX4_two_74 : decode cX4_two 74 = .ok (.iload 7, 2) := by decide +kernel
theorem dX4_two_76 : decode cX4_two 76 = .ok (.iload_n 3, 1) := by decide +kernel
theorem dX4_two_77 : decode cX4_two 77 = .ok (.invokevirtual 211, 3) := by decide +kernel
theorem dX4_two_80 : decode cX4_two 80 = .ok (.aload_n 0, 1) := by decide +kernel
theorem dX4_two_81 : decode cX4_two 81 = .ok (.iload_n 1, 1) := by decide +kernel
theorem dX4_two_82 : decode cX4_two 82 = .ok (.iload_n 1, 1) := by decide +kernel
theorem dX4_two_83 : decode cX4_two 83 = .ok (.iload 6, 2) := by decide +kernel
theorem dX4_two_85 : decode cX4_two 85 = .ok (.iload_n 2, 1) := by decide +kernel
theorem dX4_two_86 : decode cX4_two 86 = .ok (.iload 7, 2) := by decide +kernel
theorem dX4_two_88 : decode cX4_two 88 = .ok (.iload_n 3, 1) := by decide +kernel
theorem dX4_two_89 : decode cX4_two 89 = .ok (.invokevirtual 211, 3) := by decide +kernel
theorem dX4_two_92 : decode cX4_two 92 = .ok (.if_icmp .gt 41, 3) := by decide +kernel
theorem dX4_two_95 : decode cX4_two 95 = .ok (.aload_n 0, 1) := by decide +kernel
theorem dX4_two_96 : decode cX4_two 96 = .ok (.iload_n 2, 1) := by decide +kernel
theorem dX4_two_97 : decode cX4_two 97 = .ok (.iload_n 1, 1) := by decide +kernel
theorem dX4_two_98 : decode cX4_two 98 = .ok (.iload 6, 2) := by decide +kernel
theorem dX4_two_100 : decode cX4_two 100 = .ok (.iload_n 2, 1) := by decide +kernel
theorem dX4_two_101 : decode cX4_two 101 = .ok (.iconst 1, 1) := by decide +kernel
theorem dX4_two_102 : decode cX4_two 102 = .ok (.iload 7, 2) := by decide +kernel
theorem dX4_two_104 : decode cX4_two 104 = .ok (.isub, 1) := by decide +kernel
theorem dX4_two_105 : decode cX4_two 105 = .ok (.iload_n 3, 1) := by decide +kernel
theorem dX4_two_106 : decode cX4_two 106 = .ok (.invokevirtual 211, 3) := by decide +kernel
theorem dX4_two_109 : decode cX4_two 109 = .ok (.aload_n 0, 1) := by decide +kernel
theorem dX4_two_110 : decode cX4_two 110 = .ok (.iload_n 2, 1) := by decide +kernel
theorem dX4_two_111 : decode cX4_two 111 = .ok (.iload_n 1, 1) := by decide +kernel
theorem dX4_two_112 : decode cX4_two 112 = .ok (.iload 6, 2) := by decide +kernel
theorem dX4_two_114 : decode cX4_two 114 = .ok (.iload_n 2, 1) := by decide +kernel
theorem dX4_two_115 : decode cX4_two 115 = .ok (.iload 7, 2) := by decide +kernel
theorem dX4_two_117 : decode cX4_two 117 = .ok (.iload_n 3, 1) := by decide +kernel
theorem dX4_two_118 : decode cX4_two 118 = .ok (.invokevirtual 211, 3) := by decide +kernel
theorem dX4_two_121 : decode cX4_two 121 = .ok (.if_icmp .gt 12, 3) := by decide +kernel
theorem dX4_two_124 : decode cX4_two 124 = .ok (.bipush 10, 2) := by decide +kernel
theorem dX4_two_126 : decode cX4_two 126 = .ok (.iload 6, 2) := by decide +kernel
theorem dX4_two_128 : decode cX4_two 128 = .ok (.imul, 1) := by decide +kernel
theorem dX4_two_129 : decode cX4_two 129 = .ok (.iload 7, 2) := by decide +kernel
theorem dX4_two_131 : decode cX4_two 131 = .ok (.iadd, 1) := by decide +kernel
theorem dX4_two_132 : decode cX4_two 132 = .ok (.ireturn, 1) := by decide +kernel
theorem dX4_two_133 : decode cX4_two 133 = .ok (.iinc 5 1, 3) := by decide +kernel
theorem dX4_two_136 : decode cX4_two 136 = .ok (.goto (-88), 3) := by decide +kernel
theorem dX4_two_139 : decode cX4_two 139 = .ok (.bipush (-9), 2) := by decide +kernel
theorem dX4_two_141 : decode cX4_two 141 = .ok (.ireturn, 1) := by decide +kernel
theorem dX4_gcd_0 : decode cX4_gcd 0 = .ok (.lload_n 0, 1) := by decide +kernel
theorem dX4_gcd_1 : decode cX4_gcd 1 = .ok (.lstore 4, 2) := by decide +kernel
theorem dX4_gcd_3 : decode cX4_gcd 3 = .ok (.lload_n 2, 1) := by decide +kernel
theorem dX4_gcd_4 : decode cX4_gcd 4 = .ok (.lstore 6, 2) := by decide +kernel
theorem dX4_gcd_6 : decode cX4_gcd 6 = .ok (.lload 6, 2) := by decide +kernel
theorem dX4_gcd_8 : decode cX4_gcd 8 = .ok (.lconst 0, 1) := by decide +kernel
theorem dX4_gcd_9 : decode cX4_gcd 9 = .ok (.lcmp, 1) := by decide +kernel
theorem dX4_gcd_10 : decode cX4_gcd 10 = .ok (.ifCond .eq 21, 3) := by decide +kernel
theorem dX4_gcd_13 : decode cX4_gcd 13 = .ok (.lload 4, 2) := by decide +kernel
theorem dX4_gcd_15 : decode cX4_gcd 15 = .ok (.lload 6, 2) := by decide +kernel
theorem dX4_gcd_17 : decode cX4_gcd 17 = .ok (.lrem, 1) := by decide +kernel
theorem dX4_gcd_18 : decode cX4_gcd 18 = .ok (.lstore 8, 2) := by decide +kernel
theorem dX4_gcd_20 : decode cX4_gcd 20 = .ok (.lload 6, 2) := by decide +kernel
theorem dX4_gcd_22 : decode cX4_gcd 22 = .ok (.lstore 4, 2) := by decide +kernel
theorem dX4_gcd_24 : decode cX4_gcd 24 = .ok (.lload 8, 2) := by decide +kernel
theorem dX4_gcd_26 : decode cX4_gcd 26 = .ok (.lstore 6, 2) := by decide +kernel
theorem dX4_gcd_28 : decode cX4_gcd 28 = .ok (.goto (-22), 3) := by decide +kernel
theorem dX4_gcd_31 : decode cX4_gcd 31 = .ok (.lload 4, 2) := by decide +kernel
theorem dX4_gcd_33 : decode cX4_gcd 33 = .ok (.lreturn, 1) := by decide +kernel
set_option maxRecDepth 20000 in
theorem ggX4_partOf_X4_gcd : GoodIn wsX4_partOf wsX4_gcd := goodIn_r _ [4] (by decide +kernel) (by decide +kernel)
set_option maxRecDepth 20000 in
theorem gX4_partOf_X4_gcd : GoodIn wsX4_partOf (va_wsS RX4 215 yX4_gcd wsX4_gcd) := goodIn_app (goodIn_of _ (by decide +kernel)) ggX4_partOf_X4_gcd
theorem dX4_partOf_0 : decode cX4_partOf 0 = .ok (.lload_n 0, 1) := by decide +kernel
theorem dX4_partOf_1 : decode cX4_partOf 1 = .ok (.lconst 0, 1) := by decide +kernel
theorem dX4_partOf_2 : decode cX4_partOf 2 = .ok (.lcmp, 1) := by decide +kernel
theorem dX4_partOf_3 : decode cX4_partOf 3 = .ok (.ifCond .ne 7, 3) := by decide +kernel
theorem dX4_partOf_6 : decode cX4_partOf 6 = .ok (.iload 4, 2) := by decide +kernel
theorem dX4_partOf_8 : decode cX4_partOf 8 = .ok (.i2l, 1) := by decide +kernel
theorem dX4_partOf_9 : decode cX4_partOf 9 = .ok (.lreturn, 1) := by decide +kernel
theorem dX4_partOf_10 : decode cX4_partOf 10 = .ok (.iload 4, 2) := by decide +kernel
theorem dX4_partOf_12 : decode cX4_partOf 12 = .ok (.ifCond .ne 7, 3) := by decide +kernel
theorem dX4_partOf_15 : decode cX4_partOf 15 = .ok (.lload_n 0, 1) := by decide +kernel
theorem dX4_partOf_16 : decode cX4_partOf 16 = .ok (.goto 4, 3) := by decide +kernel
theorem dX4_partOf_19 : decode cX4_partOf 19 = .ok (.lload_n 2, 1) := by decide +kernel
theorem dX4_partOf_20 : decode cX4_partOf 20 = .ok (.lload_n 0, 1) := by decide +kernel
theorem dX4_partOf_21 : decode cX4_partOf 21 = .ok (.lload_n 2, 1) := by decide +kernel
theorem dX4_partOf_22 : decode cX4_partOf 22 = .ok (.invokestatic 215, 3) := by decide +kernel
theorem dX4_partOf_25 : decode cX4_partOf 25 = .ok (.ldiv, 1) := by decide +kernel
theorem dX4_partOf_26 : decode cX4_partOf 26 = .ok (.lreturn, 1) := by decide +kernel
set_option maxRecDepth 20000 in
theorem ggX4_storm_X4_isThing : GoodIn wsX4_storm wsX4_isThing := goodIn_r _ [7, 1, 8, 9, 6, 10, 66, 67, 68, 69, 70, 71, 72, 73, 74, 75, 76, 77, 78, 79, 80, 81] (by decide +kernel) (by decide +kernel)
set_option maxRecDepth 20000 in
theorem gX4_storm_X4_isThing : GoodIn wsX4_storm (wsV RX4 133 RX4 yX4_isThing wsX4_isThing) := goodIn_app (goodIn_of _ (by decide +kernel)) ggX4_storm_X4_isThing
set_option maxRecDepth 20000 in
theorem ggX4_storm_X4_noWide : GoodIn wsX4_storm wsX4_noWide := goodIn_r _ [14, 15, 16, 17, 18, 6, 19, 20, 66, 67, 68, 69, 70, 71, 72, 73, 74, 75, 76, 77, 78, 79, 80, 81] (by decide +kernel) (by decide +kernel)
set_option maxRecDepth 20000 in
theorem gX4_storm_X4_noWide : GoodIn wsX4_storm (wsV RX4 219 RX4 yX4_noWide wsX4_noWide) := goodIn_app (goodIn_of _ (by decide +kernel)) ggX4_storm_X4_noWide
set_option maxRecDepth 20000 in
theorem ggX4_storm_X4_isIn : GoodIn wsX4_storm wsX4_isIn := goodIn_r _ [10] (by decide +kernel) (by decide +kernel)
set_option maxRecDepth 20000 in
theorem gX4_storm_X4_isIn : GoodIn wsX4_storm (va_wsS RX4 47 yX4_isIn wsX4_isIn) := goodIn_app (goodIn_of _ (by decide +kernel)) ggX4_storm_X4_isIn
set_option maxRecDepth 20000 in
theorem ggX4_storm_X4_copies : GoodIn wsX4_storm wsX4_copies := goodIn_r _ [23] (by decide +kernel) (by decide +kernel)
set_option maxRecDepth 20000 in
theorem gX4_storm_X4_copies : GoodIn wsX4_storm (va_wsS RX4 139 yX4_copies wsX4_copies) := goodIn_app (goodIn_of _ (by decide +kernel)) ggX4_storm_X4_copies
set_option maxRecDepth 20000 in
theorem ggX4_storm_X4_has : GoodIn wsX4_storm wsX4_has := goodIn_r _ [26] (by decide +kernel) (by decide +kernel)
set_option maxRecDepth 20000 in
theorem gX4_storm_X4_has : GoodIn wsX4_storm (va_wsS RX4 173 yX4_has wsX4_has) := goodIn_app (goodIn_of _ (by decide +kernel)) ggX4_storm_X4_has
set_option maxRecDepth 20000 in
theorem ggX4_storm_X4_day : GoodIn wsX4_storm wsX4_day := goodIn_r _ [29, 30, 31, 6, 32, 33, 34, 35, 36, 37, 38, 39, 40, 41, 42, 43, 44, 45, 46, 47, 48, 49, 50, 51, 52, 53, 54, 55, 56, 57, 58, 59] (by decide +kernel) (by decide +kernel)
set_option maxRecDepth 20000 in
theorem gX4_storm_X4_day : GoodIn wsX4_storm (va_wsS RX4 87 yX4_day wsX4_day) := goodIn_app (goodIn_of _ (by decide +kernel)) ggX4_storm_X4_day
set_option maxRecDepth 20000 in
theorem ggX4_storm_X4_isWhole : GoodIn wsX4_storm wsX4_isWhole := goodIn_r _ [32, 33, 34, 6, 35] (by decide +kernel) (by decide +kernel)
set_option maxRecDepth 20000 in
theorem gX4_storm_X4_isWhole : GoodIn wsX4_storm (va_wsS RX4 72 yX4_isWhole wsX4_isWhole) := goodIn_app (goodIn_of _ (by decide +kernel)) ggX4_storm_X4_isWhole
set_option maxRecDepth 20000 in
theorem ggX4_storm_X4_partOf : GoodIn wsX4_storm wsX4_partOf := goodIn_r _ [62, 63, 64, 6, 65] (by decide +kernel) (by decide +kernel)
set_option maxRecDepth 20000 in
theorem gX4_storm_X4_partOf : GoodIn wsX4_storm (va_wsS RX4 223 yX4_partOf wsX4_partOf) := goodIn_app (goodIn_of _ (by decide +kernel)) ggX4_storm_X4_partOf
theorem dX4_storm_0 : decode cX4_storm 0 = .ok (.aload_n 0, 1) := by decide +kernel
theorem dX4_storm_1 : decode cX4_storm 1 = .ok (.iload_n 1, 1) := by decide +kernel
theorem dX4_storm_2 : decode cX4_storm 2 = .ok (.invokevirtual 133, 3) := by decide +kernel
theorem dX4_storm_5 : decode cX4_storm 5 = .ok (.ifCond .ne 9, 3) := by decide +kernel
theorem dX4_storm_8 : decode cX4_storm 8 = .ok (.aload_n 0, 1) := by decide +kernel
theorem dX4_storm_9 : decode cX4_storm 9 = .ok (.iconst (-1), 1) := by decide +kernel
theorem dX4_storm_10 : decode cX4_storm 10 = .ok (.invokevirtual 219, 3) := by decide +kernel
theorem dX4_storm_13 : decode cX4_storm 13 = .ok (.lreturn, 1) := by decide +kernel
theorem dX4_storm_14 : decode cX4_storm 14 = .ok (.iload_n 2, 1) := by decide +kernel
theorem dX4_storm_15 : decode cX4_storm 15 = .ok (.ifCond .lt 8, 3) := by decide +kernel
theorem dX4_storm_18 : decode cX4_storm 18 = .ok (.iload_n 3, 1) := by decide +kernel
theorem dX4_storm_19 : decode cX4_storm 19 = .ok (.iconst 2, 1) := by decide +kernel
theorem dX4_storm_20 : decode cX4_storm 20 = .ok (.if_icmp .ge 10, 3) := by decide +kernel
theorem dX4_storm_23 : decode cX4_storm 23 = .ok (.aload_n 0, 1) := by decide +kernel
theorem dX4_storm_24 : decode cX4_storm 24 = .ok (.bipush (-4), 2) := by decide +kernel
theorem dX4_storm_26 : decode cX4_storm 26 = .ok (.invokevirtual 219, 3) := by decide +kernel
theorem dX4_storm_29 : decode cX4_storm 29 = .ok (.lreturn, 1) := by decide +kernel
theorem dX4_storm_30 : decode cX4_storm 30 = .ok (.iload_n 2, 1) := by decide +kernel
theorem dX4_storm_31 : decode cX4_storm 31 = .ok (.bipush 7, 2) := by decide +kernel
theorem dX4_storm_33 : decode cX4_storm 33 = .ok (.if_icmp .gt 9, 3) := by decide +kernel
theorem dX4_storm_36 : decode cX4_storm 36 = .ok (.iload_n 3, 1) := by decide +kernel
theorem dX4_storm_37 : decode cX4_storm 37 = .ok (.bipush 20, 2) := by decide +kernel
theorem dX4_storm_39 : decode cX4_storm 39 = .ok (.if_icmp .le 10, 3) := by decide +kernel
theorem dX4_storm_42 : decode cX4_storm 42 = .ok (.aload_n 0, 1) := by decide +kernel
theorem dX4_storm_43 : decode cX4_storm 43 = .ok (.bipush (-6), 2) := by decide +kernel
theorem dX4_storm_45 : decode cX4_storm 45 = .ok (.invokevirtual 219, 3) := by decide +kernel
theorem dX4_storm_48 : decode cX4_storm 48 = .ok (.lreturn, 1) := by decide +kernel
theorem dX4_storm_49 : decode cX4_storm 49 = .ok (.iload 4, 2) := by decide +kernel
theorem dX4_storm_51 : decode cX4_storm 51 = .ok (.iconst 0, 1) := by decide +kernel
theorem dX4_storm_52 : decode cX4_storm 52 = .ok (.iconst 1, 1) := by decide +kernel
theorem dX4_storm_53 : decode cX4_storm 53 = .ok (.invokestatic 47, 3) := by decide +kernel
theorem dX4_storm_56 : decode cX4_storm 56 = .ok (.ifCond .ne 10, 3) := by decide +kernel
theorem dX4_storm_59 : decode cX4_storm 59 = .ok (.aload_n 0, 1) := by decide +kernel
theorem dX4_storm_60 : decode cX4_storm 60 = .ok (.bipush (-2), 2) := by decide +kernel
theorem dX4_storm_62 : decode cX4_storm 62 = .ok (.invokevirtual 219, 3) := by decide +kernel
theorem dX4_storm_65 : decode cX4_storm 65 = .ok (.lreturn, 1) := by decide +kernel
theorem dX4_storm_66 : decode cX4_storm 66 = .ok (.lconst 0, 1) := by decide +kernel
theorem dX4_storm_67 : decode cX4_storm 67 = .ok (.lstore 5, 2) := by decide +kernel
theorem dX4_storm_69 : decode cX4_storm 69 = .ok (.lconst 1, 1) := by decide +kernel
theorem dX4_storm_70 : decode cX4_storm 70 = .ok (.lstore 7, 2) := by decide +kernel
theorem dX4_storm_72 : decode cX4_storm 72 = .ok (.iconst 0, 1) := by decide +kernel
theorem dX4_storm_73 : decode cX4_storm 73 = .ok (.istore 9, 2) := by decide +kernel
theorem dX4_storm_75 : decode cX4_storm 75 = .ok (.iload 9, 2) := by decide +kernel
theorem dX4_storm_77 : decode cX4_storm 77 = .ok (.iload_n 2, 1) := by decide +kernel
theorem dX4_storm_78 : decode cX4_storm 78 = .ok (.if_icmp .ge 16, 3) := by decide +kernel
theorem dX4_storm_81 : decode cX4_storm 81 = .ok (.lload 7, 2) := by decide +kernel
theorem dX4_storm_83 : decode cX4_storm 83 = .ok (.iload_n 3, 1) := by decide +kernel
theorem dX4_storm_84 : decode cX4_storm 84 = .ok (.i2l, 1) := by decide +kernel
theorem dX4_storm_85 : decode cX4_storm 85 = .ok (.lmul, 1) := by decide +kernel
theorem dX4_storm_86 : decode cX4_storm 86 = .ok (.lstore 7, 2) := by decide +kernel
theorem dX4_storm_88 : decode cX4_storm 88 = .ok (.iinc 9 1, 3) := by decide +kernel
theorem dX4_storm_91 : decode cX4_storm 91 = .ok (.goto (-16), 3) := by decide +kernel
theorem dX4_storm_94 : decode cX4_storm 94 = .ok (.iconst 0, 1) := by decide +kernel
theorem dX4_storm_95 : decode cX4_storm 95 = .ok (.istore 9, 2) := by decide +kernel
theorem dX4_storm_97 : decode cX4_storm 97 = .ok (.iload 9, 2) := by decide +kernel
theorem dX4_storm_99 : decode cX4_storm 99 = .ok (.iconst 1, 1) := by decide +kernel
theorem dX4_storm_100 : decode cX4_storm 100 = .ok (.iload_n 2, 1) := by decide +kernel
theorem dX4_storm_101 : decode cX4_storm 101 = .ok (.ishl, 1) := by decide +kernel
theorem dX4_storm_102 : decode cX4_storm 102 = .ok (.if_icmp .ge 105, 3) := by decide +kernel
theorem dX4_storm_105 : decode cX4_storm 105 = .ok (.lconst 1, 1) := by decide +kernel
theorem dX4_storm_106 : decode cX4_storm 106 = .ok (.lstore 10, 2) := by decide +kernel
theorem dX4_storm_108 : decode cX4_storm 108 = .ok (.aload_n 0, 1) := by decide +kernel
theorem dX4_storm_109 : decode cX4_storm 109 = .ok (.getfield 9, 3) := by decide +kernel
theorem dX4_storm_112 : decode cX4_storm 112 = .ok (.aload_n 0, 1) := by decide +kernel
theorem dX4_storm_113 : decode cX4_storm 113 = .ok (.getfield 13, 3) := by decide +kernel
theorem dX4_storm_116 : decode cX4_storm 116 = .ok (.invokestatic 139, 3) := by decide +kernel
theorem dX4_storm_119 : decode cX4_storm 119 = .ok (.iconst 0, 1) := by decide +kernel
theorem dX4_storm_120 : decode cX4_storm 120 = .ok (.istore 12, 2) := by decide +kernel
theorem dX4_storm_122 : decode cX4_storm 122 = .ok (.iload 12, 2) := by decide +kernel
theorem dX4_storm_124 : decode cX4_storm 124 = .ok (.iload_n 2, 1) := by decide +kernel
theorem dX4_storm_125 : decode cX4_storm 125 = .ok (.if_icmp .ge 54, 3) := by decide +kernel
theorem dX4_storm_128 : decode cX4_storm 128 = .ok (.lload 10, 2) := by decide +kernel
theorem dX4_storm_130 : decode cX4_storm 130 = .ok (.iload 9, 2) := by decide +kernel
theorem dX4_storm_132 : decode cX4_storm 132 = .ok (.iload 12, 2) := by decide +kernel
theorem dX4_storm_134 : decode cX4_storm 134 = .ok (.invokestatic 173, 3) := by decide +kernel
theorem dX4_storm_137 : decode cX4_storm 137 = .ok (.ifCond .eq 7, 3) := by decide +kernel
theorem dX4_storm_140 : decode cX4_storm 140 = .ok (.lconst 1, 1) := by decide +kernel
theorem dX4_storm_141 : decode cX4_storm 141 = .ok (.goto 7, 3) := by decide +kernel
theorem dX4_storm_144 : decode cX4_storm 144 = .ok (.iload_n 3, 1) := by decide +kernel
theorem dX4_storm_145 : decode cX4_storm 145 = .ok (.iconst 1, 1) := by decide +kernel
theorem dX4_storm_146 : decode cX4_storm 146 = .ok (.isub, 1) := by decide +kernel
theorem dX4_storm_147 : decode cX4_storm 147 = .ok (.i2l, 1) := by decide +kernel
theorem dX4_storm_148 : decode cX4_storm 148 = .ok (.lmul, 1) := by decide +kernel
theorem dX4_storm_149 : decode cX4_storm 149 = .ok (.lstore 10, 2) := by decide +kernel
theorem dX4_storm_151 : decode cX4_storm 151 = .ok (.aload_n 0, 1) := by decide +kernel
theorem dX4_storm_152 : decode cX4_storm 152 = .ok (.getfield 13, 3) := by decide +kernel
theorem dX4_storm_155 : decode cX4_storm 155 = .ok (.iload 9, 2) := by decide +kernel
theorem dX4_storm_157 : decode cX4_storm 157 = .ok (.iload 12, 2) := by decide +kernel
theorem dX4_storm_159 : decode cX4_storm 159 = .ok (.invokestatic 173, 3) := by decide +kernel
theorem dX4_storm_162 : decode cX4_storm 162 = .ok (.ifCond .eq 7, 3) := by decide +kernel
theorem dX4_storm_165 : decode cX4_storm 165 = .ok (.iconst 2, 1) := by decide +kernel
theorem dX4_storm_166 : decode cX4_storm 166 = .ok (.goto 4, 3) := by decide +kernel
theorem dX4_storm_169 : decode cX4_storm 169 = .ok (.iconst 1, 1) := by decide +kernel
theorem dX4_storm_170 : decode cX4_storm 170 = .ok (.invokestatic 87, 3) := by decide +kernel
theorem dX4_storm_173 : decode cX4_storm 173 = .ok (.iinc 12 1, 3) := by decide +kernel
theorem dX4_storm_176 : decode cX4_storm 176 = .ok (.goto (-54), 3) := by decide +kernel
theorem dX4_storm_179 : decode cX4_storm 179 = .ok (.lload 5, 2) := by decide +kernel
theorem dX4_storm_181 : decode cX4_storm 181 = .ok (.aload_n 0, 1) := by decide +kernel
theorem dX4_storm_182 : decode cX4_storm 182 = .ok (.getfield 13, 3) := by decide +kernel
theorem dX4_storm_185 : decode cX4_storm 185 = .ok (.iload_n 1, 1) := by decide +kernel
theorem dX4_storm_186 : decode cX4_storm 186 = .ok (.invokestatic 72, 3) := by decide +kernel
theorem dX4_storm_189 : decode cX4_storm 189 = .ok (.ifCond .eq 8, 3) := by decide +kernel
theorem dX4_storm_192 : decode cX4_storm 192 = .ok (.lload 10, 2) := by decide +kernel
theorem dX4_storm_194 : decode cX4_storm 194 = .ok (.goto 4, 3) := by decide +kernel
theorem dX4_storm_197 : decode cX4_storm 197 = .ok (.lconst 0, 1) := by decide +kernel
theorem dX4_storm_198 : decode cX4_storm 198 = .ok (.ladd, 1) := by decide +kernel
theorem dX4_storm_199 : decode cX4_storm 199 = .ok (.lstore 5, 2) := by decide +kernel
theorem dX4_storm_201 : decode cX4_storm 201 = .ok (.iinc 9 1, 3) := by decide +kernel
theorem dX4_storm_204 : decode cX4_storm 204 = .ok (.goto (-107), 3) := by decide +kernel
theorem dX4_storm_207 : decode cX4_storm 207 = .ok (.lload 5, 2) := by decide +kernel
theorem dX4_storm_209 : decode cX4_storm 209 = .ok (.lload 7, 2) := by decide +kernel
theorem dX4_storm_211 : decode cX4_storm 211 = .ok (.iload 4, 2) := by decide +kernel
theorem dX4_storm_213 : decode cX4_storm 213 = .ok (.invokestatic 223, 3) := by decide +kernel
theorem dX4_storm_216 : decode cX4_storm 216 = .ok (.lreturn, 1) := by decide +kernel
set_option maxRecDepth 20000 in
theorem ggX4_mean_X4_isIn : GoodIn wsX4_mean wsX4_isIn := goodIn_r _ [5] (by decide +kernel) (by decide +kernel)
set_option maxRecDepth 20000 in
theorem gX4_mean_X4_isIn : GoodIn wsX4_mean (va_wsS RX4 47 yX4_isIn wsX4_isIn) := goodIn_app (goodIn_of _ (by decide +kernel)) ggX4_mean_X4_isIn
set_option maxRecDepth 20000 in
theorem ggX4_mean_X4_noWide : GoodIn wsX4_mean wsX4_noWide := goodIn_r _ [9, 10, 11, 12, 13, 4, 14, 15, 34, 35, 36, 37, 38, 39, 40, 41, 42, 43, 44, 45, 46, 47, 48, 49] (by decide +kernel) (by decide +kernel)
set_option maxRecDepth 20000 in
theorem gX4_mean_X4_noWide : GoodIn wsX4_mean (wsV RX4 219 RX4 yX4_noWide wsX4_noWide) := goodIn_app (goodIn_of _ (by decide +kernel)) ggX4_mean_X4_noWide
set_option maxRecDepth 20000 in
theorem ggX4_mean_X4_isWhole : GoodIn wsX4_mean wsX4_isWhole := goodIn_r _ [18, 19, 20, 4, 21] (by decide +kernel) (by decide +kernel)
set_option maxRecDepth 20000 in
theorem gX4_mean_X4_isWhole : GoodIn wsX4_mean (va_wsS RX4 72 yX4_isWhole wsX4_isWhole) := goodIn_app (goodIn_of _ (by decide +kernel)) ggX4_mean_X4_isWhole
set_option maxRecDepth 20000 in
theorem ggX4_mean_X4_ofT : GoodIn wsX4_mean wsX4_ofT := goodIn_r _ [21] (by decide +kernel) (by decide +kernel)
set_option maxRecDepth 20000 in
theorem gX4_mean_X4_ofT : GoodIn wsX4_mean (va_wsS RX4 51 yX4_ofT wsX4_ofT) := goodIn_app (goodIn_of _ (by decide +kernel)) ggX4_mean_X4_ofT
set_option maxRecDepth 20000 in
theorem ggX4_mean_X4_wholeSet : GoodIn wsX4_mean wsX4_wholeSet := goodIn_r _ [24, 16, 17, 4, 18, 19, 20, 21] (by decide +kernel) (by decide +kernel)
set_option maxRecDepth 20000 in
theorem gX4_mean_X4_wholeSet : GoodIn wsX4_mean (va_wsS RX4 94 yX4_wholeSet wsX4_wholeSet) := goodIn_app (goodIn_of _ (by decide +kernel)) ggX4_mean_X4_wholeSet
set_option maxRecDepth 20000 in
theorem ggX4_mean_X4_bits : GoodIn wsX4_mean wsX4_bits := goodIn_r _ [27] (by decide +kernel) (by decide +kernel)
set_option maxRecDepth 20000 in
theorem gX4_mean_X4_bits : GoodIn wsX4_mean (va_wsS RX4 98 yX4_bits wsX4_bits) := goodIn_app (goodIn_of _ (by decide +kernel)) ggX4_mean_X4_bits
set_option maxRecDepth 20000 in
theorem ggX4_mean_X4_partOf : GoodIn wsX4_mean wsX4_partOf := goodIn_r _ [30, 31, 32, 4, 33] (by decide +kernel) (by decide +kernel)
set_option maxRecDepth 20000 in
theorem gX4_mean_X4_partOf : GoodIn wsX4_mean (va_wsS RX4 223 yX4_partOf wsX4_partOf) := goodIn_app (goodIn_of _ (by decide +kernel)) ggX4_mean_X4_partOf
theorem dX4_mean_0 : decode cX4_mean 0 = .ok (.iload_n 1, 1) := by decide +kernel
theorem dX4_mean_1 : decode cX4_mean 1 = .ok (.iconst 0, 1) := by decide +kernel
theorem dX4_mean_2 : decode cX4_mean 2 = .ok (.iconst 1, 1) := by decide +kernel
theorem dX4_mean_3 : decode cX4_mean 3 = .ok (.invokestatic 47, 3) := by decide +kernel
theorem dX4_mean_6 : decode cX4_mean 6 = .ok (.ifCond .ne 10, 3) := by decide +kernel
theorem dX4_mean_9 : decode cX4_mean 9 = .ok (.aload_n 0, 1) := by decide +kernel
theorem dX4_mean_10 : decode cX4_mean 10 = .ok (.bipush (-2), 2) := by decide +kernel
theorem dX4_mean_12 : decode cX4_mean 12 = .ok (.invokevirtual 219, 3) := by decide +kernel
theorem dX4_mean_15 : decode cX4_mean 15 = .ok (.lreturn, 1) := by decide +kernel
theorem dX4_mean_16 : decode cX4_mean 16 = .ok (.lconst 0, 1) := by decide +kernel
theorem dX4_mean_17 : decode cX4_mean 17 = .ok (.lstore_n 2, 1) := by decide +kernel
theorem dX4_mean_18 : decode cX4_mean 18 = .ok (.iconst 0, 1) := by decide +kernel
theorem dX4_mean_19 : decode cX4_mean 19 = .ok (.istore 4, 2) := by decide +kernel
theorem dX4_mean_21 : decode cX4_mean 21 = .ok (.iload 4, 2) := by decide +kernel
theorem dX4_mean_23 : decode cX4_mean 23 = .ok (.aload_n 0, 1) := by decide +kernel
theorem dX4_mean_24 : decode cX4_mean 24 = .ok (.getfield 9, 3) := by decide +kernel
theorem dX4_mean_27 : decode cX4_mean 27 = .ok (.iconst 1, 1) := by decide +kernel
theorem dX4_mean_28 : decode cX4_mean 28 = .ok (.iaload, 1) := by decide +kernel
theorem dX4_mean_29 : decode cX4_mean 29 = .ok (.if_icmp .ge 41, 3) := by decide +kernel
theorem dX4_mean_32 : decode cX4_mean 32 = .ok (.lload_n 2, 1) := by decide +kernel
theorem dX4_mean_33 : decode cX4_mean 33 = .ok (.aload_n 0, 1) := by decide +kernel
theorem dX4_mean_34 : decode cX4_mean 34 = .ok (.getfield 9, 3) := by decide +kernel
theorem dX4_mean_37 : decode cX4_mean 37 = .ok (.iload 4, 2) := by decide +kernel
theorem dX4_mean_39 : decode cX4_mean 39 = .ok (.invokestatic 72, 3) := by decide +kernel
theorem dX4_mean_42 : decode cX4_mean 42 = .ok (.ifCond .eq 19, 3) := by decide +kernel
theorem dX4_mean_45 : decode cX4_mean 45 = .ok (.aload_n 0, 1) := by decide +kernel
theorem dX4_mean_46 : decode cX4_mean 46 = .ok (.getfield 9, 3) := by decide +kernel
theorem dX4_mean_49 : decode cX4_mean 49 = .ok (.iload 4, 2) := by decide +kernel
theorem dX4_mean_51 : decode cX4_mean 51 = .ok (.invokestatic 51, 3) := by decide +kernel
theorem dX4_mean_54 : decode cX4_mean 54 = .ok (.iconst 3, 1) := by decide +kernel
theorem dX4_mean_55 : decode cX4_mean 55 = .ok (.iadd, 1) := by decide +kernel
theorem dX4_mean_56 : decode cX4_mean 56 = .ok (.iaload, 1) := by decide +kernel
theorem dX4_mean_57 : decode cX4_mean 57 = .ok (.i2l, 1) := by decide +kernel
theorem dX4_mean_58 : decode cX4_mean 58 = .ok (.goto 4, 3) := by decide +kernel
theorem dX4_mean_61 : decode cX4_mean 61 = .ok (.lconst 0, 1) := by decide +kernel
theorem dX4_mean_62 : decode cX4_mean 62 = .ok (.ladd, 1) := by decide +kernel
theorem dX4_mean_63 : decode cX4_mean 63 = .ok (.lstore_n 2, 1) := by decide +kernel
theorem dX4_mean_64 : decode cX4_mean 64 = .ok (.iinc 4 1, 3) := by decide +kernel
theorem dX4_mean_67 : decode cX4_mean 67 = .ok (.goto (-46), 3) := by decide +kernel
theorem dX4_mean_70 : decode cX4_mean 70 = .ok (.lload_n 2, 1) := by decide +kernel
theorem dX4_mean_71 : decode cX4_mean 71 = .ok (.aload_n 0, 1) := by decide +kernel
theorem dX4_mean_72 : decode cX4_mean 72 = .ok (.getfield 9, 3) := by decide +kernel
theorem dX4_mean_75 : decode cX4_mean 75 = .ok (.invokestatic 94, 3) := by decide +kernel
theorem dX4_mean_78 : decode cX4_mean 78 = .ok (.invokestatic 98, 3) := by decide +kernel
theorem dX4_mean_81 : decode cX4_mean 81 = .ok (.i2l, 1) := by decide +kernel
theorem dX4_mean_82 : decode cX4_mean 82 = .ok (.iload_n 1, 1) := by decide +kernel
theorem dX4_mean_83 : decode cX4_mean 83 = .ok (.invokestatic 223, 3) := by decide +kernel
theorem dX4_mean_86 : decode cX4_mean 86 = .ok (.lreturn, 1) := by decide +kernel
set_option maxRecDepth 20000 in
theorem ggX4_whatIs_X4_isThing : GoodIn wsX4_whatIs wsX4_isThing := goodIn_r _ [9, 1, 10, 11, 8, 12, 54, 55, 56, 57, 58, 59, 60, 61, 62, 63, 64, 65, 66, 67, 68, 69] (by decide +kernel) (by decide +kernel)
set_option maxRecDepth 20000 in
theorem gX4_whatIs_X4_isThing : GoodIn wsX4_whatIs (wsV RX4 133 RX4 yX4_isThing wsX4_isThing) := goodIn_app (goodIn_of _ (by decide +kernel)) ggX4_whatIs_X4_isThing
set_option maxRecDepth 20000 in
theorem ggX4_whatIs_X4_no : GoodIn wsX4_whatIs wsX4_no := goodIn_r _ [16, 17, 54, 55, 56, 57, 58, 59, 60, 61, 62, 63, 64, 65, 66, 67, 68, 69] (by decide +kernel) (by decide +kernel)
set_option maxRecDepth 20000 in
theorem gX4_whatIs_X4_no : GoodIn wsX4_whatIs (wsV RX4 41 RX4 yX4_no wsX4_no) := goodIn_app (goodIn_of _ (by decide +kernel)) ggX4_whatIs_X4_no
set_option maxRecDepth 20000 in
theorem ggX4_whatIs_X4_isIn : GoodIn wsX4_whatIs wsX4_isIn := goodIn_r _ [12] (by decide +kernel) (by decide +kernel)
set_option maxRecDepth 20000 in
theorem gX4_whatIs_X4_isIn : GoodIn wsX4_whatIs (va_wsS RX4 47 yX4_isIn wsX4_isIn) := goodIn_app (goodIn_of _ (by decide +kernel)) ggX4_whatIs_X4_isIn
set_option maxRecDepth 20000 in
theorem ggX4_whatIs_X4_copies : GoodIn wsX4_whatIs wsX4_copies := goodIn_r _ [20] (by decide +kernel) (by decide +kernel)
set_option maxRecDepth 20000 in
theorem gX4_whatIs_X4_copies : GoodIn wsX4_whatIs (va_wsS RX4 139 yX4_copies wsX4_copies) := goodIn_app (goodIn_of _ (by decide +kernel)) ggX4_whatIs_X4_copies
set_option maxRecDepth 20000 in
theorem ggX4_whatIs_X4_ofT : GoodIn wsX4_whatIs wsX4_ofT := goodIn_r _ [23] (by decide +kernel) (by decide +kernel)
set_option maxRecDepth 20000 in
theorem gX4_whatIs_X4_ofT : GoodIn wsX4_whatIs (va_wsS RX4 51 yX4_ofT wsX4_ofT) := goodIn_app (goodIn_of _ (by decide +kernel)) ggX4_whatIs_X4_ofT
set_option maxRecDepth 20000 in
theorem ggX4_whatIs_X4_day : GoodIn wsX4_whatIs wsX4_day := goodIn_r _ [26, 27, 28, 8, 29, 21, 22, 23, 30, 31, 32, 33, 34, 35, 36, 37, 38, 39, 40, 41, 42, 43, 44, 45, 46, 47, 48, 49, 50, 51, 52, 53] (by decide +kernel) (by decide +kernel)
set_option maxRecDepth 20000 in
theorem gX4_whatIs_X4_day : GoodIn wsX4_whatIs (va_wsS RX4 87 yX4_day wsX4_day) := goodIn_app (goodIn_of _ (by decide +kernel)) ggX4_whatIs_X4_day
theorem dX4_whatIs_0 : decode cX4_whatIs 0 = .ok (.aload_n 0, 1) := by decide +kernel
theorem dX4_whatIs_1 : decode cX4_whatIs 1 = .ok (.iload_n 1, 1) := by decide +kernel
theorem dX4_whatIs_2 : decode cX4_whatIs 2 = .ok (.invokevirtual 133, 3) := by decide +kernel
theorem dX4_whatIs_5 : decode cX4_whatIs 5 = .ok (.ifCond .ne 9, 3) := by decide +kernel
theorem dX4_whatIs_8 : decode cX4_whatIs 8 = .ok (.aload_n 0, 1) := by decide +kernel
theorem dX4_whatIs_9 : decode cX4_whatIs 9 = .ok (.iconst (-1), 1) := by decide +kernel
theorem dX4_whatIs_10 : decode cX4_whatIs 10 = .ok (.invokevirtual 41, 3) := by decide +kernel
theorem dX4_whatIs_13 : decode cX4_whatIs 13 = .ok (.ireturn, 1) := by decide +kernel
theorem dX4_whatIs_14 : decode cX4_whatIs 14 = .ok (.iload_n 2, 1) := by decide +kernel
theorem dX4_whatIs_15 : decode cX4_whatIs 15 = .ok (.iconst 0, 1) := by decide +kernel
theorem dX4_whatIs_16 : decode cX4_whatIs 16 = .ok (.iconst 1, 1) := by decide +kernel
theorem dX4_whatIs_17 : decode cX4_whatIs 17 = .ok (.invokestatic 47, 3) := by decide +kernel
theorem dX4_whatIs_20 : decode cX4_whatIs 20 = .ok (.ifCond .ne 10, 3) := by decide +kernel
theorem dX4_whatIs_23 : decode cX4_whatIs 23 = .ok (.aload_n 0, 1) := by decide +kernel
theorem dX4_whatIs_24 : decode cX4_whatIs 24 = .ok (.bipush (-2), 2) := by decide +kernel
theorem dX4_whatIs_26 : decode cX4_whatIs 26 = .ok (.invokevirtual 41, 3) := by decide +kernel
theorem dX4_whatIs_29 : decode cX4_whatIs 29 = .ok (.ireturn, 1) := by decide +kernel
theorem dX4_whatIs_30 : decode cX4_whatIs 30 = .ok (.iconst 0, 1) := by decide +kernel
theorem dX4_whatIs_31 : decode cX4_whatIs 31 = .ok (.istore_n 3, 1) := by decide +kernel
theorem dX4_whatIs_32 : decode cX4_whatIs 32 = .ok (.iconst 0, 1) := by decide +kernel
theorem dX4_whatIs_33 : decode cX4_whatIs 33 = .ok (.istore 4, 2) := by decide +kernel
theorem dX4_whatIs_35 : decode cX4_whatIs 35 = .ok (.iload 4, 2) := by decide +kernel
theorem dX4_whatIs_37 : decode cX4_whatIs 37 = .ok (.iload_n 2, 1) := by decide +kernel
theorem dX4_whatIs_38 : decode cX4_whatIs 38 = .ok (.ifCond .ne 8, 3) := by decide +kernel
theorem dX4_whatIs_41 : decode cX4_whatIs 41 = .ok (.bipush 6, 2) := by decide +kernel
theorem dX4_whatIs_43 : decode cX4_whatIs 43 = .ok (.goto 5, 3) := by decide +kernel
theorem dX4_whatIs_46 : decode cX4_whatIs 46 = .ok (.bipush 10, 2) := by decide +kernel
theorem dX4_whatIs_48 : decode cX4_whatIs 48 = .ok (.if_icmp .ge 109, 3) := by decide +kernel
theorem dX4_whatIs_51 : decode cX4_whatIs 51 = .ok (.iconst 1, 1) := by decide +kernel
theorem dX4_whatIs_52 : decode cX4_whatIs 52 = .ok (.istore 5, 2) := by decide +kernel
theorem dX4_whatIs_54 : decode cX4_whatIs 54 = .ok (.aload_n 0, 1) := by decide +kernel
theorem dX4_whatIs_55 : decode cX4_whatIs 55 = .ok (.getfield 9, 3) := by decide +kernel
theorem dX4_whatIs_58 : decode cX4_whatIs 58 = .ok (.aload_n 0, 1) := by decide +kernel
theorem dX4_whatIs_59 : decode cX4_whatIs 59 = .ok (.getfield 13, 3) := by decide +kernel
theorem dX4_whatIs_62 : decode cX4_whatIs 62 = .ok (.invokestatic 139, 3) := by decide +kernel
theorem dX4_whatIs_65 : decode cX4_whatIs 65 = .ok (.aload_n 0, 1) := by decide +kernel
theorem dX4_whatIs_66 : decode cX4_whatIs 66 = .ok (.getfield 13, 3) := by decide +kernel
theorem dX4_whatIs_69 : decode cX4_whatIs 69 = .ok (.iload_n 1, 1) := by decide +kernel
theorem dX4_whatIs_70 : decode cX4_whatIs 70 = .ok (.invokestatic 51, 3) := by decide +kernel
theorem dX4_whatIs_73 : decode cX4_whatIs 73 = .ok (.iload_n 2, 1) := by decide +kernel
theorem dX4_whatIs_74 : decode cX4_whatIs 74 = .ok (.iadd, 1) := by decide +kernel
theorem dX4_whatIs_75 : decode cX4_whatIs 75 = .ok (.iload 4, 2) := by decide +kernel
theorem dX4_whatIs_77 : decode cX4_whatIs 77 = .ok (.iastore, 1) := by decide +kernel
theorem dX4_whatIs_78 : decode cX4_whatIs 78 = .ok (.iconst 0, 1) := by decide +kernel
theorem dX4_whatIs_79 : decode cX4_whatIs 79 = .ok (.istore 6, 2) := by decide +kernel
theorem dX4_whatIs_81 : decode cX4_whatIs 81 = .ok (.iload 6, 2) := by decide +kernel
theorem dX4_whatIs_83 : decode cX4_whatIs 83 = .ok (.aload_n 0, 1) := by decide +kernel
theorem dX4_whatIs_84 : decode cX4_whatIs 84 = .ok (.getfield 227, 3) := by decide +kernel
theorem dX4_whatIs_87 : decode cX4_whatIs 87 = .ok (.if_icmp .ge 48, 3) := by decide +kernel
theorem dX4_whatIs_90 : decode cX4_whatIs 90 = .ok (.iload 5, 2) := by decide +kernel
theorem dX4_whatIs_92 : decode cX4_whatIs 92 = .ok (.aload_n 0, 1) := by decide +kernel
theorem dX4_whatIs_93 : decode cX4_whatIs 93 = .ok (.getfield 13, 3) := by decide +kernel
theorem dX4_whatIs_96 : decode cX4_whatIs 96 = .ok (.iload_n 1, 1) := by decide +kernel
theorem dX4_whatIs_97 : decode cX4_whatIs 97 = .ok (.invokestatic 51, 3) := by decide +kernel
theorem dX4_whatIs_100 : decode cX4_whatIs 100 = .ok (.iconst 3, 1) := by decide +kernel
theorem dX4_whatIs_101 : decode cX4_whatIs 101 = .ok (.iadd, 1) := by decide +kernel
theorem dX4_whatIs_102 : decode cX4_whatIs 102 = .ok (.iaload, 1) := by decide +kernel
theorem dX4_whatIs_103 : decode cX4_whatIs 103 = .ok (.aload_n 0, 1) := by decide +kernel
theorem dX4_whatIs_104 : decode cX4_whatIs 104 = .ok (.getfield 25, 3) := by decide +kernel
theorem dX4_whatIs_107 : decode cX4_whatIs 107 = .ok (.iload 6, 2) := by decide +kernel
theorem dX4_whatIs_109 : decode cX4_whatIs 109 = .ok (.iaload, 1) := by decide +kernel
theorem dX4_whatIs_110 : decode cX4_whatIs 110 = .ok (.if_icmp .ne 7, 3) := by decide +kernel
theorem dX4_whatIs_113 : decode cX4_whatIs 113 = .ok (.iconst 1, 1) := by decide +kernel
theorem dX4_whatIs_114 : decode cX4_whatIs 114 = .ok (.goto 4, 3) := by decide +kernel
theorem dX4_whatIs_117 : decode cX4_whatIs 117 = .ok (.iconst 0, 1) := by decide +kernel
theorem dX4_whatIs_118 : decode cX4_whatIs 118 = .ok (.iand, 1) := by decide +kernel
theorem dX4_whatIs_119 : decode cX4_whatIs 119 = .ok (.istore 5, 2) := by decide +kernel
theorem dX4_whatIs_121 : decode cX4_whatIs 121 = .ok (.aload_n 0, 1) := by decide +kernel
theorem dX4_whatIs_122 : decode cX4_whatIs 122 = .ok (.getfield 13, 3) := by decide +kernel
theorem dX4_whatIs_125 : decode cX4_whatIs 125 = .ok (.iconst 1, 1) := by decide +kernel
theorem dX4_whatIs_126 : decode cX4_whatIs 126 = .ok (.invokestatic 87, 3) := by decide +kernel
theorem dX4_whatIs_129 : decode cX4_whatIs 129 = .ok (.iinc 6 1, 3) := by decide +kernel
theorem dX4_whatIs_132 : decode cX4_whatIs 132 = .ok (.goto (-51), 3) := by decide +kernel
theorem dX4_whatIs_135 : decode cX4_whatIs 135 = .ok (.iload_n 3, 1) := by decide +kernel
theorem dX4_whatIs_136 : decode cX4_whatIs 136 = .ok (.iload 5, 2) := by decide +kernel
theorem dX4_whatIs_138 : decode cX4_whatIs 138 = .ok (.ifCond .eq 10, 3) := by decide +kernel
theorem dX4_whatIs_141 : decode cX4_whatIs 141 = .ok (.iconst 1, 1) := by decide +kernel
theorem dX4_whatIs_142 : decode cX4_whatIs 142 = .ok (.iload 4, 2) := by decide +kernel
theorem dX4_whatIs_144 : decode cX4_whatIs 144 = .ok (.ishl, 1) := by decide +kernel
theorem dX4_whatIs_145 : decode cX4_whatIs 145 = .ok (.goto 4, 3) := by decide +kernel
theorem dX4_whatIs_148 : decode cX4_whatIs 148 = .ok (.iconst 0, 1) := by decide +kernel
theorem dX4_whatIs_149 : decode cX4_whatIs 149 = .ok (.ior, 1) := by decide +kernel
theorem dX4_whatIs_150 : decode cX4_whatIs 150 = .ok (.istore_n 3, 1) := by decide +kernel
theorem dX4_whatIs_151 : decode cX4_whatIs 151 = .ok (.iinc 4 1, 3) := by decide +kernel
theorem dX4_whatIs_154 : decode cX4_whatIs 154 = .ok (.goto (-119), 3) := by decide +kernel
theorem dX4_whatIs_157 : decode cX4_whatIs 157 = .ok (.iload_n 3, 1) := by decide +kernel
theorem dX4_whatIs_158 : decode cX4_whatIs 158 = .ok (.ireturn, 1) := by decide +kernel
set_option maxRecDepth 20000 in
theorem ggX4_row_X4_wrongBy : GoodIn wsX4_row wsX4_wrongBy := goodIn_r _ [6] (by decide +kernel) (by decide +kernel)
set_option maxRecDepth 20000 in
theorem gX4_row_X4_wrongBy : GoodIn wsX4_row (va_wsS RX4 153 yX4_wrongBy wsX4_wrongBy) := goodIn_app (goodIn_of _ (by decide +kernel)) ggX4_row_X4_wrongBy
set_option maxRecDepth 20000 in
theorem ggX4_row_X4_no : GoodIn wsX4_row wsX4_no := goodIn_r _ [10, 11, 12, 13, 14, 15, 16, 17, 18, 19, 20, 21, 22, 23, 24, 25, 26, 27] (by decide +kernel) (by decide +kernel)
set_option maxRecDepth 20000 in
theorem gX4_row_X4_no : GoodIn wsX4_row (wsV RX4 41 RX4 yX4_no wsX4_no) := goodIn_app (goodIn_of _ (by decide +kernel)) ggX4_row_X4_no
theorem dX4_row_0 : decode cX4_row 0 = .ok (.iload_n 1, 1) := by decide +kernel
theorem dX4_row_1 : decode cX4_row 1 = .ok (.bipush 99, 2) := by decide +kernel
theorem dX4_row_3 : decode cX4_row 3 = .ok (.invokestatic 153, 3) := by decide +kernel
theorem dX4_row_6 : decode cX4_row 6 = .ok (.istore_n 2, 1) := by decide +kernel
theorem dX4_row_7 : decode cX4_row 7 = .ok (.iload_n 2, 1) := by decide +kernel
theorem dX4_row_8 : decode cX4_row 8 = .ok (.ifCond .ne 15, 3) := by decide +kernel
theorem dX4_row_11 : decode cX4_row 11 = .ok (.aload_n 0, 1) := by decide +kernel
theorem dX4_row_12 : decode cX4_row 12 = .ok (.getfield 227, 3) := by decide +kernel
theorem dX4_row_15 : decode cX4_row 15 = .ok (.bipush 16, 2) := by decide +kernel
theorem dX4_row_17 : decode cX4_row 17 = .ok (.if_icmp .ne 6, 3) := by decide +kernel
theorem dX4_row_20 : decode cX4_row 20 = .ok (.bipush (-6), 2) := by decide +kernel
theorem dX4_row_22 : decode cX4_row 22 = .ok (.istore_n 2, 1) := by decide +kernel
theorem dX4_row_23 : decode cX4_row 23 = .ok (.iload_n 2, 1) := by decide +kernel
theorem dX4_row_24 : decode cX4_row 24 = .ok (.ifCond .eq 9, 3) := by decide +kernel
theorem dX4_row_27 : decode cX4_row 27 = .ok (.aload_n 0, 1) := by decide +kernel
theorem dX4_row_28 : decode cX4_row 28 = .ok (.iload_n 2, 1) := by decide +kernel
theorem dX4_row_29 : decode cX4_row 29 = .ok (.invokevirtual 41, 3) := by decide +kernel
theorem dX4_row_32 : decode cX4_row 32 = .ok (.ireturn, 1) := by decide +kernel
theorem dX4_row_33 : decode cX4_row 33 = .ok (.aload_n 0, 1) := by decide +kernel
theorem dX4_row_34 : decode cX4_row 34 = .ok (.getfield 25, 3) := by decide +kernel
theorem dX4_row_37 : decode cX4_row 37 = .ok (.aload_n 0, 1) := by decide +kernel
theorem dX4_row_38 : decode cX4_row 38 = .ok (.getfield 227, 3) := by decide +kernel
theorem dX4_row_41 : decode cX4_row 41 = .ok (.iload_n 1, 1) := by decide +kernel
theorem dX4_row_42 : decode cX4_row 42 = .ok (.iastore, 1) := by decide +kernel
theorem dX4_row_43 : decode cX4_row 43 = .ok (.aload_n 0, 1) := by decide +kernel
theorem dX4_row_44 : decode cX4_row 44 = .ok (.dup, 1) := by decide +kernel
theorem dX4_row_45 : decode cX4_row 45 = .ok (.getfield 227, 3) := by decide +kernel
theorem dX4_row_48 : decode cX4_row 48 = .ok (.iconst 1, 1) := by decide +kernel
theorem dX4_row_49 : decode cX4_row 49 = .ok (.iadd, 1) := by decide +kernel
theorem dX4_row_50 : decode cX4_row 50 = .ok (.putfield 227, 3) := by decide +kernel
theorem dX4_row_53 : decode cX4_row 53 = .ok (.aload_n 0, 1) := by decide +kernel
theorem dX4_row_54 : decode cX4_row 54 = .ok (.getfield 227, 3) := by decide +kernel
theorem dX4_row_57 : decode cX4_row 57 = .ok (.ireturn, 1) := by decide +kernel
set_option maxRecDepth 20000 in
theorem ggX4_judge_X4_copies : GoodIn wsX4_judge wsX4_copies := goodIn_r _ [8] (by decide +kernel) (by decide +kernel)
set_option maxRecDepth 20000 in
theorem gX4_judge_X4_copies : GoodIn wsX4_judge (va_wsS RX4 139 yX4_copies wsX4_copies) := goodIn_app (goodIn_of _ (by decide +kernel)) ggX4_judge_X4_copies
set_option maxRecDepth 20000 in
theorem ggX4_judge_X4_wholeSet : GoodIn wsX4_judge wsX4_wholeSet := goodIn_r _ [11, 12, 13, 7, 14, 15, 16, 17] (by decide +kernel) (by decide +kernel)
set_option maxRecDepth 20000 in
theorem gX4_judge_X4_wholeSet : GoodIn wsX4_judge (va_wsS RX4 94 yX4_wholeSet wsX4_wholeSet) := goodIn_app (goodIn_of _ (by decide +kernel)) ggX4_judge_X4_wholeSet
set_option maxRecDepth 20000 in
theorem ggX4_judge_X4_bits : GoodIn wsX4_judge wsX4_bits := goodIn_r _ [20] (by decide +kernel) (by decide +kernel)
set_option maxRecDepth 20000 in
theorem gX4_judge_X4_bits : GoodIn wsX4_judge (va_wsS RX4 98 yX4_bits wsX4_bits) := goodIn_app (goodIn_of _ (by decide +kernel)) ggX4_judge_X4_bits
set_option maxRecDepth 20000 in
theorem ggX4_judge_X4_day : GoodIn wsX4_judge wsX4_day := goodIn_r _ [23, 12, 13, 7, 14, 15, 16, 17, 24, 25, 26, 27, 28, 29, 30, 31, 32, 33, 34, 35, 36, 37, 38, 39, 40, 41, 42, 43, 44, 45, 46, 47] (by decide +kernel) (by decide +kernel)
set_option maxRecDepth 20000 in
theorem gX4_judge_X4_day : GoodIn wsX4_judge (va_wsS RX4 87 yX4_day wsX4_day) := goodIn_app (goodIn_of _ (by decide +kernel)) ggX4_judge_X4_day
theorem dX4_judge_0 : decode cX4_judge 0 = .ok (.aload_n 0, 1) := by decide +kernel
theorem dX4_judge_1 : decode cX4_judge 1 = .ok (.getfield 227, 3) := by decide +kernel
theorem dX4_judge_4 : decode cX4_judge 4 = .ok (.istore_n 1, 1) := by decide +kernel
theorem dX4_judge_5 : decode cX4_judge 5 = .ok (.aload_n 0, 1) := by decide +kernel
theorem dX4_judge_6 : decode cX4_judge 6 = .ok (.iconst 0, 1) := by decide +kernel
theorem dX4_judge_7 : decode cX4_judge 7 = .ok (.putfield 227, 3) := by decide +kernel
theorem dX4_judge_10 : decode cX4_judge 10 = .ok (.aload_n 0, 1) := by decide +kernel
theorem dX4_judge_11 : decode cX4_judge 11 = .ok (.getfield 9, 3) := by decide +kernel
theorem dX4_judge_14 : decode cX4_judge 14 = .ok (.aload_n 0, 1) := by decide +kernel
theorem dX4_judge_15 : decode cX4_judge 15 = .ok (.getfield 13, 3) := by decide +kernel
theorem dX4_judge_18 : decode cX4_judge 18 = .ok (.invokestatic 139, 3) := by decide +kernel
theorem dX4_judge_21 : decode cX4_judge 21 = .ok (.iconst 0, 1) := by decide +kernel
theorem dX4_judge_22 : decode cX4_judge 22 = .ok (.istore_n 2, 1) := by decide +kernel
theorem dX4_judge_23 : decode cX4_judge 23 = .ok (.iload_n 2, 1) := by decide +kernel
theorem dX4_judge_24 : decode cX4_judge 24 = .ok (.iload_n 1, 1) := by decide +kernel
theorem dX4_judge_25 : decode cX4_judge 25 = .ok (.if_icmp .ge 38, 3) := by decide +kernel
theorem dX4_judge_28 : decode cX4_judge 28 = .ok (.aload_n 0, 1) := by decide +kernel
theorem dX4_judge_29 : decode cX4_judge 29 = .ok (.getfield 13, 3) := by decide +kernel
theorem dX4_judge_32 : decode cX4_judge 32 = .ok (.invokestatic 94, 3) := by decide +kernel
theorem dX4_judge_35 : decode cX4_judge 35 = .ok (.invokestatic 98, 3) := by decide +kernel
theorem dX4_judge_38 : decode cX4_judge 38 = .ok (.aload_n 0, 1) := by decide +kernel
theorem dX4_judge_39 : decode cX4_judge 39 = .ok (.getfield 25, 3) := by decide +kernel
theorem dX4_judge_42 : decode cX4_judge 42 = .ok (.iload_n 2, 1) := by decide +kernel
theorem dX4_judge_43 : decode cX4_judge 43 = .ok (.iaload, 1) := by decide +kernel
theorem dX4_judge_44 : decode cX4_judge 44 = .ok (.if_icmp .eq 5, 3) := by decide +kernel
theorem dX4_judge_47 : decode cX4_judge 47 = .ok (.iload_n 2, 1) := by decide +kernel
theorem dX4_judge_48 : decode cX4_judge 48 = .ok (.ireturn, 1) := by decide +kernel
theorem dX4_judge_49 : decode cX4_judge 49 = .ok (.aload_n 0, 1) := by decide +kernel
theorem dX4_judge_50 : decode cX4_judge 50 = .ok (.getfield 13, 3) := by decide +kernel
theorem dX4_judge_53 : decode cX4_judge 53 = .ok (.iconst 1, 1) := by decide +kernel
theorem dX4_judge_54 : decode cX4_judge 54 = .ok (.invokestatic 87, 3) := by decide +kernel
theorem dX4_judge_57 : decode cX4_judge 57 = .ok (.iinc 2 1, 3) := by decide +kernel
theorem dX4_judge_60 : decode cX4_judge 60 = .ok (.goto (-37), 3) := by decide +kernel
theorem dX4_judge_63 : decode cX4_judge 63 = .ok (.bipush (-9), 2) := by decide +kernel
theorem dX4_judge_65 : decode cX4_judge 65 = .ok (.ireturn, 1) := by decide +kernel
theorem dX4_clear_0 : decode cX4_clear 0 = .ok (.aload_n 0, 1) := by decide +kernel
theorem dX4_clear_1 : decode cX4_clear 1 = .ok (.getfield 227, 3) := by decide +kernel
theorem dX4_clear_4 : decode cX4_clear 4 = .ok (.istore_n 1, 1) := by decide +kernel
theorem dX4_clear_5 : decode cX4_clear 5 = .ok (.aload_n 0, 1) := by decide +kernel
theorem dX4_clear_6 : decode cX4_clear 6 = .ok (.iconst 0, 1) := by decide +kernel
theorem dX4_clear_7 : decode cX4_clear 7 = .ok (.putfield 227, 3) := by decide +kernel
theorem dX4_clear_10 : decode cX4_clear 10 = .ok (.iload_n 1, 1) := by decide +kernel
theorem dX4_clear_11 : decode cX4_clear 11 = .ok (.ireturn, 1) := by decide +kernel
theorem dX4_drawn_0 : decode cX4_drawn 0 = .ok (.aload_n 0, 1) := by decide +kernel
theorem dX4_drawn_1 : decode cX4_drawn 1 = .ok (.aload_n 0, 1) := by decide +kernel
theorem dX4_drawn_2 : decode cX4_drawn 2 = .ok (.getfield 230, 3) := by decide +kernel
theorem dX4_drawn_5 : decode cX4_drawn 5 = .ok (.ldc 233, 2) := by decide +kernel
theorem dX4_drawn_7 : decode cX4_drawn 7 = .ok (.imul, 1) := by decide +kernel
theorem dX4_drawn_8 : decode cX4_drawn 8 = .ok (.ldc 234, 2) := by decide +kernel
theorem dX4_drawn_10 : decode cX4_drawn 10 = .ok (.iadd, 1) := by decide +kernel
theorem dX4_drawn_11 : decode cX4_drawn 11 = .ok (.putfield 230, 3) := by decide +kernel
theorem dX4_drawn_14 : decode cX4_drawn 14 = .ok (.aload_n 0, 1) := by decide +kernel
theorem dX4_drawn_15 : decode cX4_drawn 15 = .ok (.getfield 230, 3) := by decide +kernel
theorem dX4_drawn_18 : decode cX4_drawn 18 = .ok (.ldc 235, 2) := by decide +kernel
theorem dX4_drawn_20 : decode cX4_drawn 20 = .ok (.iand, 1) := by decide +kernel
theorem dX4_drawn_21 : decode cX4_drawn 21 = .ok (.sipush 256, 3) := by decide +kernel
theorem dX4_drawn_24 : decode cX4_drawn 24 = .ok (.idiv, 1) := by decide +kernel
theorem dX4_drawn_25 : decode cX4_drawn 25 = .ok (.iload_n 1, 1) := by decide +kernel
theorem dX4_drawn_26 : decode cX4_drawn 26 = .ok (.irem, 1) := by decide +kernel
theorem dX4_drawn_27 : decode cX4_drawn 27 = .ok (.ireturn, 1) := by decide +kernel
set_option maxRecDepth 20000 in
theorem ggX4_lots_X4_no : GoodIn wsX4_lots wsX4_no := goodIn_r _ [8, 9, 72, 73, 74, 75, 76, 77, 78, 79, 80, 81, 82, 83, 84, 85, 86, 87] (by decide +kernel) (by decide +kernel)
set_option maxRecDepth 20000 in
theorem gX4_lots_X4_no : GoodIn wsX4_lots (wsV RX4 41 RX4 yX4_no wsX4_no) := goodIn_app (goodIn_of _ (by decide +kernel)) ggX4_lots_X4_no
set_option maxRecDepth 20000 in
theorem ggX4_lots_X4_isIn : GoodIn wsX4_lots wsX4_isIn := goodIn_r _ [12] (by decide +kernel) (by decide +kernel)
set_option maxRecDepth 20000 in
theorem gX4_lots_X4_isIn : GoodIn wsX4_lots (va_wsS RX4 47 yX4_isIn wsX4_isIn) := goodIn_app (goodIn_of _ (by decide +kernel)) ggX4_lots_X4_isIn
set_option maxRecDepth 20000 in
theorem ggX4_lots_X4_copies : GoodIn wsX4_lots wsX4_copies := goodIn_r _ [15] (by decide +kernel) (by decide +kernel)
set_option maxRecDepth 20000 in
theorem gX4_lots_X4_copies : GoodIn wsX4_lots (va_wsS RX4 139 yX4_copies wsX4_copies) := goodIn_app (goodIn_of _ (by decide +kernel)) ggX4_lots_X4_copies
set_option maxRecDepth 20000 in
theorem ggX4_lots_X4_isWhole : GoodIn wsX4_lots wsX4_isWhole := goodIn_r _ [18, 19, 20, 7, 21] (by decide +kernel) (by decide +kernel)
set_option maxRecDepth 20000 in
theorem gX4_lots_X4_isWhole : GoodIn wsX4_lots (va_wsS RX4 72 yX4_isWhole wsX4_isWhole) := goodIn_app (goodIn_of _ (by decide +kernel)) ggX4_lots_X4_isWhole
set_option maxRecDepth 20000 in
theorem ggX4_lots_X4_drawn : GoodIn wsX4_lots wsX4_drawn := goodIn_r _ [25, 2, 26, 27, 28, 72, 73, 74, 75, 76, 77, 78, 79, 80, 81, 82, 83, 84, 85, 86, 87] (by decide +kernel) (by decide +kernel)
set_option maxRecDepth 20000 in
theorem gX4_lots_X4_drawn : GoodIn wsX4_lots (wsV RX4 236 RX4 yX4_drawn wsX4_drawn) := goodIn_app (goodIn_of _ (by decide +kernel)) ggX4_lots_X4_drawn
set_option maxRecDepth 20000 in
theorem ggX4_lots_X4_ofT : GoodIn wsX4_lots wsX4_ofT := goodIn_r _ [21] (by decide +kernel) (by decide +kernel)
set_option maxRecDepth 20000 in
theorem gX4_lots_X4_ofT : GoodIn wsX4_lots (va_wsS RX4 51 yX4_ofT wsX4_ofT) := goodIn_app (goodIn_of _ (by decide +kernel)) ggX4_lots_X4_ofT
set_option maxRecDepth 20000 in
theorem ggX4_lots_X4_wholeBehind : GoodIn wsX4_lots wsX4_wholeBehind := goodIn_r _ [32, 3, 33, 34, 7, 35, 36, 37, 38, 16, 17, 18, 19, 20, 21, 39, 40, 41, 42, 43, 44, 45, 46, 47, 48, 49, 50, 51, 52, 53, 54, 55, 56, 57, 58, 59, 60, 61, 62, 63, 64, 65, 66, 67, 68, 72, 73, 74, 75, 76, 77, 78, 79, 80, 81, 82, 83, 84, 85, 86, 87] (by decide +kernel) (by decide +kernel)
set_option maxRecDepth 20000 in
theorem gX4_lots_X4_wholeBehind : GoodIn wsX4_lots (wsV RX4 180 RX4 yX4_wholeBehind wsX4_wholeBehind) := goodIn_app (goodIn_of _ (by decide +kernel)) ggX4_lots_X4_wholeBehind
set_option maxRecDepth 20000 in
theorem ggX4_lots_X4_mendedAll : GoodIn wsX4_lots wsX4_mendedAll := goodIn_r _ [71, 54, 55, 7, 56] (by decide +kernel) (by decide +kernel)
set_option maxRecDepth 20000 in
theorem gX4_lots_X4_mendedAll : GoodIn wsX4_lots (va_wsS RX4 160 yX4_mendedAll wsX4_mendedAll) := goodIn_app (goodIn_of _ (by decide +kernel)) ggX4_lots_X4_mendedAll
theorem dX4_lots_0 : decode cX4_lots 0 = .ok (.iload_n 1, 1) := by decide +kernel
theorem dX4_lots_1 : decode cX4_lots 1 = .ok (.iconst 1, 1) := by decide +kernel
theorem dX4_lots_2 : decode cX4_lots 2 = .ok (.if_icmp .ge 10, 3) := by decide +kernel
theorem dX4_lots_5 : decode cX4_lots 5 = .ok (.aload_n 0, 1) := by decide +kernel
theorem dX4_lots_6 : decode cX4_lots 6 = .ok (.bipush (-4), 2) := by decide +kernel
theorem dX4_lots_8 : decode cX4_lots 8 = .ok (.invokevirtual 41, 3) := by decide +kernel
theorem dX4_lots_11 : decode cX4_lots 11 = .ok (.ireturn, 1) := by decide +kernel
theorem dX4_lots_12 : decode cX4_lots 12 = .ok (.iload_n 1, 1) := by decide +kernel
theorem dX4_lots_13 : decode cX4_lots 13 = .ok (.bipush 20, 2) := by decide +kernel
theorem dX4_lots_15 : decode cX4_lots 15 = .ok (.if_icmp .le 10, 3) := by decide +kernel
theorem dX4_lots_18 : decode cX4_lots 18 = .ok (.aload_n 0, 1) := by decide +kernel
theorem dX4_lots_19 : decode cX4_lots 19 = .ok (.bipush (-6), 2) := by decide +kernel
theorem dX4_lots_21 : decode cX4_lots 21 = .ok (.invokevirtual 41, 3) := by decide +kernel
theorem dX4_lots_24 : decode cX4_lots 24 = .ok (.ireturn, 1) := by decide +kernel
theorem dX4_lots_25 : decode cX4_lots 25 = .ok (.iload_n 3, 1) := by decide +kernel
theorem dX4_lots_26 : decode cX4_lots 26 = .ok (.iconst 0, 1) := by decide +kernel
theorem dX4_lots_27 : decode cX4_lots 27 = .ok (.iconst 1, 1) := by decide +kernel
theorem dX4_lots_28 : decode cX4_lots 28 = .ok (.invokestatic 47, 3) := by decide +kernel
theorem dX4_lots_31 : decode cX4_lots 31 = .ok (.ifCond .ne 10, 3) := by decide +kernel
theorem dX4_lots_34 : decode cX4_lots 34 = .ok (.aload_n 0, 1) := by decide +kernel
theorem dX4_lots_35 : decode cX4_lots 35 = .ok (.bipush (-2), 2) := by decide +kernel
theorem dX4_lots_37 : decode cX4_lots 37 = .ok (.invokevirtual 41, 3) := by decide +kernel
theorem dX4_lots_40 : decode cX4_lots 40 = .ok (.ireturn, 1) := by decide +kernel
theorem dX4_lots_41 : decode cX4_lots 41 = .ok (.aload_n 0, 1) := by decide +kernel
theorem dX4_lots_42 : decode cX4_lots 42 = .ok (.getfield 9, 3) := by decide +kernel
theorem dX4_lots_45 : decode cX4_lots 45 = .ok (.iconst 0, 1) := by decide +kernel
theorem dX4_lots_46 : decode cX4_lots 46 = .ok (.iaload, 1) := by decide +kernel
theorem dX4_lots_47 : decode cX4_lots 47 = .ok (.ifCond .ne 10, 3) := by decide +kernel
theorem dX4_lots_50 : decode cX4_lots 50 = .ok (.aload_n 0, 1) := by decide +kernel
theorem dX4_lots_51 : decode cX4_lots 51 = .ok (.bipush (-3), 2) := by decide +kernel
theorem dX4_lots_53 : decode cX4_lots 53 = .ok (.invokevirtual 41, 3) := by decide +kernel
theorem dX4_lots_56 : decode cX4_lots 56 = .ok (.ireturn, 1) := by decide +kernel
theorem dX4_lots_57 : decode cX4_lots 57 = .ok (.aload_n 0, 1) := by decide +kernel
theorem dX4_lots_58 : decode cX4_lots 58 = .ok (.iload_n 2, 1) := by decide +kernel
theorem dX4_lots_59 : decode cX4_lots 59 = .ok (.putfield 230, 3) := by decide +kernel
theorem dX4_lots_62 : decode cX4_lots 62 = .ok (.iconst 0, 1) := by decide +kernel
theorem dX4_lots_63 : decode cX4_lots 63 = .ok (.istore 4, 2) := by decide +kernel
theorem dX4_lots_65 : decode cX4_lots 65 = .ok (.iconst 0, 1) := by decide +kernel
theorem dX4_lots_66 : decode cX4_lots 66 = .ok (.istore 5, 2) := by decide +kernel
theorem dX4_lots_68 : decode cX4_lots 68 = .ok (.iload 5, 2) := by decide +kernel
theorem dX4_lots_70 : decode cX4_lots 70 = .ok (.iload_n 1, 1) := by decide +kernel
theorem dX4_lots_71 : decode cX4_lots 71 = .ok (.if_icmp .ge 136, 3) := by decide +kernel
theorem dX4_lots_74 : decode cX4_lots 74 = .ok (.aload_n 0, 1) := by decide +kernel
theorem dX4_lots_75 : decode cX4_lots 75 = .ok (.getfield 9, 3) := by decide +kernel
theorem dX4_lots_78 : decode cX4_lots 78 = .ok (.aload_n 0, 1) := by decide +kernel
theorem dX4_lots_79 : decode cX4_lots 79 = .ok (.getfield 13, 3) := by decide +kernel
theorem dX4_lots_82 : decode cX4_lots 82 = .ok (.invokestatic 139, 3) := by decide +kernel
theorem dX4_lots_85 : decode cX4_lots 85 = .ok (.iconst 0, 1) := by decide +kernel
theorem dX4_lots_86 : decode cX4_lots 86 = .ok (.istore 6, 2) := by decide +kernel
theorem dX4_lots_88 : decode cX4_lots 88 = .ok (.iload 6, 2) := by decide +kernel
theorem dX4_lots_90 : decode cX4_lots 90 = .ok (.aload_n 0, 1) := by decide +kernel
theorem dX4_lots_91 : decode cX4_lots 91 = .ok (.getfield 9, 3) := by decide +kernel
theorem dX4_lots_94 : decode cX4_lots 94 = .ok (.iconst 1, 1) := by decide +kernel
theorem dX4_lots_95 : decode cX4_lots 95 = .ok (.iaload, 1) := by decide +kernel
theorem dX4_lots_96 : decode cX4_lots 96 = .ok (.if_icmp .ge 68, 3) := by decide +kernel
theorem dX4_lots_99 : decode cX4_lots 99 = .ok (.aload_n 0, 1) := by decide +kernel
theorem dX4_lots_100 : decode cX4_lots 100 = .ok (.getfield 9, 3) := by decide +kernel
theorem dX4_lots_103 : decode cX4_lots 103 = .ok (.iload 6, 2) := by decide +kernel
theorem dX4_lots_105 : decode cX4_lots 105 = .ok (.invokestatic 72, 3) := by decide +kernel
theorem dX4_lots_108 : decode cX4_lots 108 = .ok (.ifCond .ne 6, 3) := by decide +kernel
theorem dX4_lots_111 : decode cX4_lots 111 = .ok (.goto 47, 3) := by decide +kernel
theorem dX4_lots_114 : decode cX4_lots 114 = .ok (.aload_n 0, 1) := by decide +kernel
theorem dX4_lots_115 : decode cX4_lots 115 = .ok (.aload_n 0, 1) := by decide +kernel
theorem dX4_lots_116 : decode cX4_lots 116 = .ok (.getfield 9, 3) := by decide +kernel
theorem dX4_lots_119 : decode cX4_lots 119 = .ok (.iconst 0, 1) := by decide +kernel
theorem dX4_lots_120 : decode cX4_lots 120 = .ok (.iaload, 1) := by decide +kernel
theorem dX4_lots_121 : decode cX4_lots 121 = .ok (.iconst 1, 1) := by decide +kernel
theorem dX4_lots_122 : decode cX4_lots 122 = .ok (.iadd, 1) := by decide +kernel
theorem dX4_lots_123 : decode cX4_lots 123 = .ok (.invokevirtual 236, 3) := by decide +kernel
theorem dX4_lots_126 : decode cX4_lots 126 = .ok (.istore 7, 2) := by decide +kernel
theorem dX4_lots_128 : decode cX4_lots 128 = .ok (.aload_n 0, 1) := by decide +kernel
theorem dX4_lots_129 : decode cX4_lots 129 = .ok (.getfield 13, 3) := by decide +kernel
theorem dX4_lots_132 : decode cX4_lots 132 = .ok (.iload 6, 2) := by decide +kernel
theorem dX4_lots_134 : decode cX4_lots 134 = .ok (.invokestatic 51, 3) := by decide +kernel
theorem dX4_lots_137 : decode cX4_lots 137 = .ok (.iconst 4, 1) := by decide +kernel
theorem dX4_lots_138 : decode cX4_lots 138 = .ok (.iadd, 1) := by decide +kernel
theorem dX4_lots_139 : decode cX4_lots 139 = .ok (.iload 7, 2) := by decide +kernel
theorem dX4_lots_141 : decode cX4_lots 141 = .ok (.aload_n 0, 1) := by decide +kernel
theorem dX4_lots_142 : decode cX4_lots 142 = .ok (.getfield 9, 3) := by decide +kernel
theorem dX4_lots_145 : decode cX4_lots 145 = .ok (.iconst 0, 1) := by decide +kernel
theorem dX4_lots_146 : decode cX4_lots 146 = .ok (.iaload, 1) := by decide +kernel
theorem dX4_lots_147 : decode cX4_lots 147 = .ok (.if_icmp .ne 8, 3) := by decide +kernel
theorem dX4_lots_150 : decode cX4_lots 150 = .ok (.bipush (-9), 2) := by decide +kernel
theorem dX4_lots_152 : decode cX4_lots 152 = .ok (.goto 5, 3) := by decide +kernel
theorem dX4_lots_155 : decode cX4_lots 155 = .ok (.iload 7, 2) := by decide +kernel
theorem dX4_lots_157 : decode cX4_lots 157 = .ok (.iastore, 1) := by decide +kernel
theorem dX4_lots_158 : decode cX4_lots 158 = .ok (.iinc 6 1, 3) := by decide +kernel
theorem dX4_lots_161 : decode cX4_lots 161 = .ok (.goto (-73), 3) := by decide +kernel
theorem dX4_lots_164 : decode cX4_lots 164 = .ok (.aload_n 0, 1) := by decide +kernel
theorem dX4_lots_165 : decode cX4_lots 165 = .ok (.bipush 10, 2) := by decide +kernel
theorem dX4_lots_167 : decode cX4_lots 167 = .ok (.invokevirtual 180, 3) := by decide +kernel
theorem dX4_lots_170 : decode cX4_lots 170 = .ok (.istore 6, 2) := by decide +kernel
theorem dX4_lots_172 : decode cX4_lots 172 = .ok (.iload 4, 2) := by decide +kernel
theorem dX4_lots_174 : decode cX4_lots 174 = .ok (.iload_n 3, 1) := by decide +kernel
theorem dX4_lots_175 : decode cX4_lots 175 = .ok (.ifCond .ne 8, 3) := by decide +kernel
theorem dX4_lots_178 : decode cX4_lots 178 = .ok (.iload 6, 2) := by decide +kernel
theorem dX4_lots_180 : decode cX4_lots 180 = .ok (.goto 18, 3) := by decide +kernel
theorem dX4_lots_183 : decode cX4_lots 183 = .ok (.aload_n 0, 1) := by decide +kernel
theorem dX4_lots_184 : decode cX4_lots 184 = .ok (.getfield 13, 3) := by decide +kernel
theorem dX4_lots_187 : decode cX4_lots 187 = .ok (.invokestatic 160, 3) := by decide +kernel
theorem dX4_lots_190 : decode cX4_lots 190 = .ok (.aload_n 0, 1) := by decide +kernel
theorem dX4_lots_191 : decode cX4_lots 191 = .ok (.getfield 9, 3) := by decide +kernel
theorem dX4_lots_194 : decode cX4_lots 194 = .ok (.invokestatic 160, 3) := by decide +kernel
theorem dX4_lots_197 : decode cX4_lots 197 = .ok (.isub, 1) := by decide +kernel
theorem dX4_lots_198 : decode cX4_lots 198 = .ok (.iadd, 1) := by decide +kernel
theorem dX4_lots_199 : decode cX4_lots 199 = .ok (.istore 4, 2) := by decide +kernel
theorem dX4_lots_201 : decode cX4_lots 201 = .ok (.iinc 5 1, 3) := by decide +kernel
theorem dX4_lots_204 : decode cX4_lots 204 = .ok (.goto (-136), 3) := by decide +kernel
theorem dX4_lots_207 : decode cX4_lots 207 = .ok (.iload 4, 2) := by decide +kernel
theorem dX4_lots_209 : decode cX4_lots 209 = .ok (.ireturn, 1) := by decide +kernel
set_option maxRecDepth 20000 in
theorem ggX4_image_X4_copies : GoodIn wsX4_image wsX4_copies := goodIn_r _ [7] (by decide +kernel) (by decide +kernel)
set_option maxRecDepth 20000 in
theorem gX4_image_X4_copies : GoodIn wsX4_image (va_wsS RX4 139 yX4_copies wsX4_copies) := goodIn_app (goodIn_of _ (by decide +kernel)) ggX4_image_X4_copies
theorem dX4_image_0 : decode cX4_image 0 = .ok (.aload_n 0, 1) := by decide +kernel
theorem dX4_image_1 : decode cX4_image 1 = .ok (.getfield 9, 3) := by decide +kernel
theorem dX4_image_4 : decode cX4_image 4 = .ok (.aload_n 0, 1) := by decide +kernel
theorem dX4_image_5 : decode cX4_image 5 = .ok (.getfield 16, 3) := by decide +kernel
theorem dX4_image_8 : decode cX4_image 8 = .ok (.invokestatic 139, 3) := by decide +kernel
theorem dX4_image_11 : decode cX4_image 11 = .ok (.aload_n 0, 1) := by decide +kernel
theorem dX4_image_12 : decode cX4_image 12 = .ok (.iconst 1, 1) := by decide +kernel
theorem dX4_image_13 : decode cX4_image 13 = .ok (.putfield 239, 3) := by decide +kernel
theorem dX4_image_16 : decode cX4_image 16 = .ok (.aload_n 0, 1) := by decide +kernel
theorem dX4_image_17 : decode cX4_image 17 = .ok (.getfield 9, 3) := by decide +kernel
theorem dX4_image_20 : decode cX4_image 20 = .ok (.iconst 2, 1) := by decide +kernel
theorem dX4_image_21 : decode cX4_image 21 = .ok (.iaload, 1) := by decide +kernel
theorem dX4_image_22 : decode cX4_image 22 = .ok (.ireturn, 1) := by decide +kernel
set_option maxRecDepth 20000 in
theorem ggX4_on_X4_no : GoodIn wsX4_on wsX4_no := goodIn_r _ [8, 9, 13, 14, 15, 16, 17, 18, 19, 20, 21, 22, 23, 24, 25, 26, 27, 28] (by decide +kernel) (by decide +kernel)
set_option maxRecDepth 20000 in
theorem gX4_on_X4_no : GoodIn wsX4_on (wsV RX4 41 RX4 yX4_no wsX4_no) := goodIn_app (goodIn_of _ (by decide +kernel)) ggX4_on_X4_no
set_option maxRecDepth 20000 in
theorem ggX4_on_X4_copies : GoodIn wsX4_on wsX4_copies := goodIn_r _ [12] (by decide +kernel) (by decide +kernel)
set_option maxRecDepth 20000 in
theorem gX4_on_X4_copies : GoodIn wsX4_on (va_wsS RX4 139 yX4_copies wsX4_copies) := goodIn_app (goodIn_of _ (by decide +kernel)) ggX4_on_X4_copies
theorem dX4_on_0 : decode cX4_on 0 = .ok (.aload_n 0, 1) := by decide +kernel
theorem dX4_on_1 : decode cX4_on 1 = .ok (.getfield 239, 3) := by decide +kernel
theorem dX4_on_4 : decode cX4_on 4 = .ok (.ifCond .ne 10, 3) := by decide +kernel
theorem dX4_on_7 : decode cX4_on 7 = .ok (.aload_n 0, 1) := by decide +kernel
theorem dX4_on_8 : decode cX4_on 8 = .ok (.bipush (-3), 2) := by decide +kernel
theorem dX4_on_10 : decode cX4_on 10 = .ok (.invokevirtual 41, 3) := by decide +kernel
theorem dX4_on_13 : decode cX4_on 13 = .ok (.ireturn, 1) := by decide +kernel
theorem dX4_on_14 : decode cX4_on 14 = .ok (.aload_n 0, 1) := by decide +kernel
theorem dX4_on_15 : decode cX4_on 15 = .ok (.getfield 16, 3) := by decide +kernel
theorem dX4_on_18 : decode cX4_on 18 = .ok (.aload_n 0, 1) := by decide +kernel
theorem dX4_on_19 : decode cX4_on 19 = .ok (.getfield 9, 3) := by decide +kernel
theorem dX4_on_22 : decode cX4_on 22 = .ok (.invokestatic 139, 3) := by decide +kernel
theorem dX4_on_25 : decode cX4_on 25 = .ok (.aload_n 0, 1) := by decide +kernel
theorem dX4_on_26 : decode cX4_on 26 = .ok (.getfield 9, 3) := by decide +kernel
theorem dX4_on_29 : decode cX4_on 29 = .ok (.iconst 2, 1) := by decide +kernel
theorem dX4_on_30 : decode cX4_on 30 = .ok (.iaload, 1) := by decide +kernel
theorem dX4_on_31 : decode cX4_on 31 = .ok (.ireturn, 1) := by decide +kernel
set_option maxRecDepth 20000 in
theorem ggX4_count_X4_isIn : GoodIn wsX4_count wsX4_isIn := goodIn_r _ [8] (by decide +kernel) (by decide +kernel)
set_option maxRecDepth 20000 in
theorem gX4_count_X4_isIn : GoodIn wsX4_count (va_wsS RX4 47 yX4_isIn wsX4_isIn) := goodIn_app (goodIn_of _ (by decide +kernel)) ggX4_count_X4_isIn
set_option maxRecDepth 20000 in
theorem ggX4_count_X4_wholeSet : GoodIn wsX4_count wsX4_wholeSet := goodIn_r _ [11, 12, 13, 7, 14, 15, 16, 17] (by decide +kernel) (by decide +kernel)
set_option maxRecDepth 20000 in
theorem gX4_count_X4_wholeSet : GoodIn wsX4_count (va_wsS RX4 94 yX4_wholeSet wsX4_wholeSet) := goodIn_app (goodIn_of _ (by decide +kernel)) ggX4_count_X4_wholeSet
set_option maxRecDepth 20000 in
theorem ggX4_count_X4_ofT : GoodIn wsX4_count wsX4_ofT := goodIn_r _ [17] (by decide +kernel) (by decide +kernel)
set_option maxRecDepth 20000 in
theorem gX4_count_X4_ofT : GoodIn wsX4_count (va_wsS RX4 51 yX4_ofT wsX4_ofT) := goodIn_app (goodIn_of _ (by decide +kernel)) ggX4_count_X4_ofT
set_option maxRecDepth 20000 in
theorem ggX4_count_X4_mendedAll : GoodIn wsX4_count wsX4_mendedAll := goodIn_r _ [20, 21, 22, 7, 23] (by decide +kernel) (by decide +kernel)
set_option maxRecDepth 20000 in
theorem gX4_count_X4_mendedAll : GoodIn wsX4_count (va_wsS RX4 160 yX4_mendedAll wsX4_mendedAll) := goodIn_app (goodIn_of _ (by decide +kernel)) ggX4_count_X4_mendedAll
theorem dX4_count_0 : decode cX4_count 0 = .ok (.iload_n 1, 1) := by decide +kernel
theorem dX4_count_1 : decode cX4_count 1 = .ok (.bipush 11, 2) := by decide +kernel
theorem dX4_count_3 : decode cX4_count 3 = .ok (.bipush 16, 2) := by decide +kernel
theorem dX4_count_5 : decode cX4_count 5 = .ok (.invokestatic 47, 3) := by decide +kernel
theorem dX4_count_8 : decode cX4_count 8 = .ok (.ifCond .eq 13, 3) := by decide +kernel
theorem dX4_count_11 : decode cX4_count 11 = .ok (.aload_n 0, 1) := by decide +kernel
theorem dX4_count_12 : decode cX4_count 12 = .ok (.getfield 28, 3) := by decide +kernel
theorem dX4_count_15 : decode cX4_count 15 = .ok (.iload_n 1, 1) := by decide +kernel
theorem dX4_count_16 : decode cX4_count 16 = .ok (.bipush 10, 2) := by decide +kernel
theorem dX4_count_18 : decode cX4_count 18 = .ok (.isub, 1) := by decide +kernel
theorem dX4_count_19 : decode cX4_count 19 = .ok (.iaload, 1) := by decide +kernel
theorem dX4_count_20 : decode cX4_count 20 = .ok (.ireturn, 1) := by decide +kernel
theorem dX4_count_21 : decode cX4_count 21 = .ok (.iload_n 1, 1) := by decide +kernel
theorem dX4_count_22 : decode cX4_count 22 = .ok (.iconst 0, 1) := by decide +kernel
theorem dX4_count_23 : decode cX4_count 23 = .ok (.iconst 2, 1) := by decide +kernel
theorem dX4_count_24 : decode cX4_count 24 = .ok (.invokestatic 47, 3) := by decide +kernel
theorem dX4_count_27 : decode cX4_count 27 = .ok (.ifCond .eq 10, 3) := by decide +kernel
theorem dX4_count_30 : decode cX4_count 30 = .ok (.aload_n 0, 1) := by decide +kernel
theorem dX4_count_31 : decode cX4_count 31 = .ok (.getfield 9, 3) := by decide +kernel
theorem dX4_count_34 : decode cX4_count 34 = .ok (.iload_n 1, 1) := by decide +kernel
theorem dX4_count_35 : decode cX4_count 35 = .ok (.iaload, 1) := by decide +kernel
theorem dX4_count_36 : decode cX4_count 36 = .ok (.ireturn, 1) := by decide +kernel
theorem dX4_count_37 : decode cX4_count 37 = .ok (.iconst 0, 1) := by decide +kernel
theorem dX4_count_38 : decode cX4_count 38 = .ok (.istore_n 2, 1) := by decide +kernel
theorem dX4_count_39 : decode cX4_count 39 = .ok (.iload_n 1, 1) := by decide +kernel
theorem dX4_count_40 : decode cX4_count 40 = .ok (.tableswitch 96 3 7 #[36, 44, 78, 86, 91], 36) := by decide +kernel
theorem dX4_count_76 : decode cX4_count 76 = .ok (.aload_n 0, 1) := by decide +kernel
theorem dX4_count_77 : decode cX4_count 77 = .ok (.getfield 9, 3) := by decide +kernel
theorem dX4_count_80 : decode cX4_count 80 = .ok (.invokestatic 94, 3) := by decide +kernel
theorem dX4_count_83 : decode cX4_count 83 = .ok (.ireturn, 1) := by decide +kernel
theorem dX4_count_84 : decode cX4_count 84 = .ok (.iconst 0, 1) := by decide +kernel
theorem dX4_count_85 : decode cX4_count 85 = .ok (.istore_n 3, 1) := by decide +kernel
theorem dX4_count_86 : decode cX4_count 86 = .ok (.iload_n 3, 1) := by decide +kernel
theorem dX4_count_87 : decode cX4_count 87 = .ok (.aload_n 0, 1) := by decide +kernel
theorem dX4_count_88 : decode cX4_count 88 = .ok (.getfield 9, 3) := by decide +kernel
theorem dX4_count_91 : decode cX4_count 91 = .ok (.iconst 1, 1) := by decide +kernel
theorem dX4_count_92 : decode cX4_count 92 = .ok (.iaload, 1) := by decide +kernel
theorem dX4_count_93 : decode cX4_count 93 = .ok (.if_icmp .ge 23, 3) := by decide +kernel
theorem dX4_count_96 : decode cX4_count 96 = .ok (.iload_n 2, 1) := by decide +kernel
theorem dX4_count_97 : decode cX4_count 97 = .ok (.aload_n 0, 1) := by decide +kernel
theorem dX4_count_98 : decode cX4_count 98 = .ok (.getfield 9, 3) := by decide +kernel
theorem dX4_count_101 : decode cX4_count 101 = .ok (.iload_n 3, 1) := by decide +kernel
theorem dX4_count_102 : decode cX4_count 102 = .ok (.invokestatic 51, 3) := by decide +kernel
theorem dX4_count_105 : decode cX4_count 105 = .ok (.iconst 3, 1) := by decide +kernel
theorem dX4_count_106 : decode cX4_count 106 = .ok (.iadd, 1) := by decide +kernel
theorem dX4_count_107 : decode cX4_count 107 = .ok (.iaload, 1) := by decide +kernel
theorem dX4_count_108 : decode cX4_count 108 = .ok (.iadd, 1) := by decide +kernel
theorem dX4_count_109 : decode cX4_count 109 = .ok (.istore_n 2, 1) := by decide +kernel
theorem dX4_count_110 : decode cX4_count 110 = .ok (.iinc 3 1, 3) := by decide +kernel
theorem dX4_count_113 : decode cX4_count 113 = .ok (.goto (-27), 3) := by decide +kernel
theorem dX4_count_116 : decode cX4_count 116 = .ok (.iload_n 2, 1) := by decide +kernel
theorem dX4_count_117 : decode cX4_count 117 = .ok (.ireturn, 1) := by decide +kernel
theorem dX4_count_118 : decode cX4_count 118 = .ok (.aload_n 0, 1) := by decide +kernel
theorem dX4_count_119 : decode cX4_count 119 = .ok (.getfield 9, 3) := by decide +kernel
theorem dX4_count_122 : decode cX4_count 122 = .ok (.invokestatic 160, 3) := by decide +kernel
theorem dX4_count_125 : decode cX4_count 125 = .ok (.ireturn, 1) := by decide +kernel
theorem dX4_count_126 : decode cX4_count 126 = .ok (.aload_n 0, 1) := by decide +kernel
theorem dX4_count_127 : decode cX4_count 127 = .ok (.getfield 227, 3) := by decide +kernel
theorem dX4_count_130 : decode cX4_count 130 = .ok (.ireturn, 1) := by decide +kernel
theorem dX4_count_131 : decode cX4_count 131 = .ok (.aload_n 0, 1) := by decide +kernel
theorem dX4_count_132 : decode cX4_count 132 = .ok (.getfield 101, 3) := by decide +kernel
theorem dX4_count_135 : decode cX4_count 135 = .ok (.ireturn, 1) := by decide +kernel
theorem dX4_count_136 : decode cX4_count 136 = .ok (.bipush (-9), 2) := by decide +kernel
theorem dX4_count_138 : decode cX4_count 138 = .ok (.ireturn, 1) := by decide +kernel
