theorem dX4_init_0 : decode cX4_init 0 = .ok (.aload_n 0, 1) := by decide +kernel
theorem dX4_init_1 : decode cX4_init 1 = .ok (.invokespecial 1, 3) := by decide +kernel
theorem dX4_init_4 : decode cX4_init 4 = .ok (.aload_n 0, 1) := by decide +kernel
theorem dX4_init_5 : decode cX4_init 5 = .ok (.bipush 61, 2) := by decide +kernel
theorem dX4_init_7 : decode cX4_init 7 = .ok (.newarray .int, 2) := by decide +kernel
theorem dX4_init_9 : decode cX4_init 9 = .ok (.putfield 9, 3) := by decide +kernel
theorem dX4_init_12 : decode cX4_init 12 = .ok (.aload_n 0, 1) := by decide +kernel
theorem dX4_init_13 : decode cX4_init 13 = .ok (.bipush 61, 2) := by decide +kernel
theorem dX4_init_15 : decode cX4_init 15 = .ok (.newarray .int, 2) := by decide +kernel
theorem dX4_init_17 : decode cX4_init 17 = .ok (.putfield 13, 3) := by decide +kernel
theorem dX4_init_20 : decode cX4_init 20 = .ok (.aload_n 0, 1) := by decide +kernel
theorem dX4_init_21 : decode cX4_init 21 = .ok (.bipush 61, 2) := by decide +kernel
theorem dX4_init_23 : decode cX4_init 23 = .ok (.newarray .int, 2) := by decide +kernel
theorem dX4_init_25 : decode cX4_init 25 = .ok (.putfield 16, 3) := by decide +kernel
theorem dX4_init_28 : decode cX4_init 28 = .ok (.aload_n 0, 1) := by decide +kernel
theorem dX4_init_29 : decode cX4_init 29 = .ok (.bipush 61, 2) := by decide +kernel
theorem dX4_init_31 : decode cX4_init 31 = .ok (.newarray .int, 2) := by decide +kernel
theorem dX4_init_33 : decode cX4_init 33 = .ok (.putfield 19, 3) := by decide +kernel
theorem dX4_init_36 : decode cX4_init 36 = .ok (.aload_n 0, 1) := by decide +kernel
theorem dX4_init_37 : decode cX4_init 37 = .ok (.bipush 96, 2) := by decide +kernel
theorem dX4_init_39 : decode cX4_init 39 = .ok (.newarray .int, 2) := by decide +kernel
theorem dX4_init_41 : decode cX4_init 41 = .ok (.putfield 22, 3) := by decide +kernel
theorem dX4_init_44 : decode cX4_init 44 = .ok (.aload_n 0, 1) := by decide +kernel
theorem dX4_init_45 : decode cX4_init 45 = .ok (.bipush 16, 2) := by decide +kernel
theorem dX4_init_47 : decode cX4_init 47 = .ok (.newarray .int, 2) := by decide +kernel
theorem dX4_init_49 : decode cX4_init 49 = .ok (.putfield 25, 3) := by decide +kernel
theorem dX4_init_52 : decode cX4_init 52 = .ok (.aload_n 0, 1) := by decide +kernel
theorem dX4_init_53 : decode cX4_init 53 = .ok (.bipush 7, 2) := by decide +kernel
theorem dX4_init_55 : decode cX4_init 55 = .ok (.newarray .int, 2) := by decide +kernel
theorem dX4_init_57 : decode cX4_init 57 = .ok (.putfield 28, 3) := by decide +kernel
theorem dX4_init_60 : decode cX4_init 60 = .ok (.aload_n 0, 1) := by decide +kernel
theorem dX4_init_61 : decode cX4_init 61 = .ok (.iconst 3, 1) := by decide +kernel
theorem dX4_init_62 : decode cX4_init 62 = .ok (.newarray .int, 2) := by decide +kernel
theorem dX4_init_64 : decode cX4_init 64 = .ok (.putfield 31, 3) := by decide +kernel
theorem dX4_init_67 : decode cX4_init 67 = .ok (.aload_n 0, 1) := by decide +kernel
theorem dX4_init_68 : decode cX4_init 68 = .ok (.bipush 9, 2) := by decide +kernel
theorem dX4_init_70 : decode cX4_init 70 = .ok (.newarray .int, 2) := by decide +kernel
theorem dX4_init_72 : decode cX4_init 72 = .ok (.putfield 34, 3) := by decide +kernel
theorem dX4_init_75 : decode cX4_init 75 = .ok (.aload_n 0, 1) := by decide +kernel
theorem dX4_init_76 : decode cX4_init 76 = .ok (.bipush 9, 2) := by decide +kernel
theorem dX4_init_78 : decode cX4_init 78 = .ok (.newarray .int, 2) := by decide +kernel
theorem dX4_init_80 : decode cX4_init 80 = .ok (.putfield 37, 3) := by decide +kernel
theorem dX4_init_83 : decode cX4_init 83 = .ok (.aload_n 0, 1) := by decide +kernel
theorem dX4_init_84 : decode cX4_init 84 = .ok (.getfield 9, 3) := by decide +kernel
theorem dX4_init_87 : decode cX4_init 87 = .ok (.iconst 3, 1) := by decide +kernel
theorem dX4_init_88 : decode cX4_init 88 = .ok (.bipush (-9), 2) := by decide +kernel
theorem dX4_init_90 : decode cX4_init 90 = .ok (.iastore, 1) := by decide +kernel
theorem dX4_init_91 : decode cX4_init 91 = .ok (.return_, 1) := by decide +kernel
theorem dX4_isIn_0 : decode cX4_isIn 0 = .ok (.iload_n 0, 1) := by decide +kernel
theorem dX4_isIn_1 : decode cX4_isIn 1 = .ok (.iload_n 1, 1) := by decide +kernel
theorem dX4_isIn_2 : decode cX4_isIn 2 = .ok (.if_icmp .lt 12, 3) := by decide +kernel
theorem dX4_isIn_5 : decode cX4_isIn 5 = .ok (.iload_n 0, 1) := by decide +kernel
theorem dX4_isIn_6 : decode cX4_isIn 6 = .ok (.iload_n 2, 1) := by decide +kernel
theorem dX4_isIn_7 : decode cX4_isIn 7 = .ok (.if_icmp .gt 7, 3) := by decide +kernel
theorem dX4_isIn_10 : decode cX4_isIn 10 = .ok (.iconst 1, 1) := by decide +kernel
theorem dX4_isIn_11 : decode cX4_isIn 11 = .ok (.goto 4, 3) := by decide +kernel
theorem dX4_isIn_14 : decode cX4_isIn 14 = .ok (.iconst 0, 1) := by decide +kernel
theorem dX4_isIn_15 : decode cX4_isIn 15 = .ok (.ireturn, 1) := by decide +kernel
theorem dX4_least_0 : decode cX4_least 0 = .ok (.iload_n 0, 1) := by decide +kernel
theorem dX4_least_1 : decode cX4_least 1 = .ok (.iload_n 1, 1) := by decide +kernel
theorem dX4_least_2 : decode cX4_least 2 = .ok (.if_icmp .ge 7, 3) := by decide +kernel
theorem dX4_least_5 : decode cX4_least 5 = .ok (.iload_n 0, 1) := by decide +kernel
theorem dX4_least_6 : decode cX4_least 6 = .ok (.goto 4, 3) := by decide +kernel
theorem dX4_least_9 : decode cX4_least 9 = .ok (.iload_n 1, 1) := by decide +kernel
theorem dX4_least_10 : decode cX4_least 10 = .ok (.ireturn, 1) := by decide +kernel
theorem dX4_copies_0 : decode cX4_copies 0 = .ok (.iconst 0, 1) := by decide +kernel
theorem dX4_copies_1 : decode cX4_copies 1 = .ok (.istore_n 2, 1) := by decide +kernel
theorem dX4_copies_2 : decode cX4_copies 2 = .ok (.iload_n 2, 1) := by decide +kernel
theorem dX4_copies_3 : decode cX4_copies 3 = .ok (.bipush 61, 2) := by decide +kernel
theorem dX4_copies_5 : decode cX4_copies 5 = .ok (.if_icmp .ge 15, 3) := by decide +kernel
theorem dX4_copies_8 : decode cX4_copies 8 = .ok (.aload_n 1, 1) := by decide +kernel
theorem dX4_copies_9 : decode cX4_copies 9 = .ok (.iload_n 2, 1) := by decide +kernel
theorem dX4_copies_10 : decode cX4_copies 10 = .ok (.aload_n 0, 1) := by decide +kernel
theorem dX4_copies_11 : decode cX4_copies 11 = .ok (.iload_n 2, 1) := by decide +kernel
theorem dX4_copies_12 : decode cX4_copies 12 = .ok (.iaload, 1) := by decide +kernel
theorem dX4_copies_13 : decode cX4_copies 13 = .ok (.iastore, 1) := by decide +kernel
theorem dX4_copies_14 : decode cX4_copies 14 = .ok (.iinc 2 1, 3) := by decide +kernel
theorem dX4_copies_17 : decode cX4_copies 17 = .ok (.goto (-15), 3) := by decide +kernel
theorem dX4_copies_20 : decode cX4_copies 20 = .ok (.return_, 1) := by decide +kernel
theorem dX4_no_0 : decode cX4_no 0 = .ok (.aload_n 0, 1) := by decide +kernel
theorem dX4_no_1 : decode cX4_no 1 = .ok (.getfield 28, 3) := by decide +kernel
theorem dX4_no_4 : decode cX4_no 4 = .ok (.iload_n 1, 1) := by decide +kernel
theorem dX4_no_5 : decode cX4_no 5 = .ok (.ineg, 1) := by decide +kernel
theorem dX4_no_6 : decode cX4_no 6 = .ok (.dup2, 1) := by decide +kernel
theorem dX4_no_7 : decode cX4_no 7 = .ok (.iaload, 1) := by decide +kernel
theorem dX4_no_8 : decode cX4_no 8 = .ok (.iconst 1, 1) := by decide +kernel
theorem dX4_no_9 : decode cX4_no 9 = .ok (.iadd, 1) := by decide +kernel
theorem dX4_no_10 : decode cX4_no 10 = .ok (.iastore, 1) := by decide +kernel
theorem dX4_no_11 : decode cX4_no 11 = .ok (.iload_n 1, 1) := by decide +kernel
theorem dX4_no_12 : decode cX4_no 12 = .ok (.ireturn, 1) := by decide +kernel
set_option maxRecDepth 20000 in
theorem ggX4_noFar_X4_no : GoodIn wsX4_noFar wsX4_no := goodIn_r _ [6, 7, 8, 9, 10, 11, 12, 13, 14, 15, 16, 17, 18, 19, 20, 21, 22, 23] (by decide +kernel) (by decide +kernel)
set_option maxRecDepth 20000 in
theorem gX4_noFar_X4_no : GoodIn wsX4_noFar (wsV RX4 41 RX4 yX4_no wsX4_no) := goodIn_app (goodIn_of _ (by decide +kernel)) ggX4_noFar_X4_no
theorem dX4_noFar_0 : decode cX4_noFar 0 = .ok (.ldc 40, 2) := by decide +kernel
theorem dX4_noFar_2 : decode cX4_noFar 2 = .ok (.aload_n 0, 1) := by decide +kernel
theorem dX4_noFar_3 : decode cX4_noFar 3 = .ok (.iload_n 1, 1) := by decide +kernel
theorem dX4_noFar_4 : decode cX4_noFar 4 = .ok (.invokevirtual 41, 3) := by decide +kernel
theorem dX4_noFar_7 : decode cX4_noFar 7 = .ok (.isub, 1) := by decide +kernel
theorem dX4_noFar_8 : decode cX4_noFar 8 = .ok (.ireturn, 1) := by decide +kernel
set_option maxRecDepth 20000 in
theorem ggX4_noWide_X4_no : GoodIn wsX4_noWide wsX4_no := goodIn_r _ [6, 7, 8, 9, 10, 11, 12, 13, 14, 15, 16, 17, 18, 19, 20, 21, 22, 23] (by decide +kernel) (by decide +kernel)
set_option maxRecDepth 20000 in
theorem gX4_noWide_X4_no : GoodIn wsX4_noWide (wsV RX4 41 RX4 yX4_no wsX4_no) := goodIn_app (goodIn_of _ (by decide +kernel)) ggX4_noWide_X4_no
theorem dX4_noWide_0 : decode cX4_noWide 0 = .ok (.ldc2_w 45, 3) := by decide +kernel
theorem dX4_noWide_3 : decode cX4_noWide 3 = .ok (.aload_n 0, 1) := by decide +kernel
theorem dX4_noWide_4 : decode cX4_noWide 4 = .ok (.iload_n 1, 1) := by decide +kernel
theorem dX4_noWide_5 : decode cX4_noWide 5 = .ok (.invokevirtual 41, 3) := by decide +kernel
theorem dX4_noWide_8 : decode cX4_noWide 8 = .ok (.i2l, 1) := by decide +kernel
theorem dX4_noWide_9 : decode cX4_noWide 9 = .ok (.lsub, 1) := by decide +kernel
theorem dX4_noWide_10 : decode cX4_noWide 10 = .ok (.lreturn, 1) := by decide +kernel
theorem dX4_ofP_0 : decode cX4_ofP 0 = .ok (.iconst 4, 1) := by decide +kernel
theorem dX4_ofP_1 : decode cX4_ofP 1 = .ok (.iconst 2, 1) := by decide +kernel
theorem dX4_ofP_2 : decode cX4_ofP 2 = .ok (.iload_n 0, 1) := by decide +kernel
theorem dX4_ofP_3 : decode cX4_ofP 3 = .ok (.imul, 1) := by decide +kernel
theorem dX4_ofP_4 : decode cX4_ofP 4 = .ok (.iadd, 1) := by decide +kernel
theorem dX4_ofP_5 : decode cX4_ofP 5 = .ok (.ireturn, 1) := by decide +kernel
theorem dX4_ofT_0 : decode cX4_ofT 0 = .ok (.bipush 16, 2) := by decide +kernel
theorem dX4_ofT_2 : decode cX4_ofT 2 = .ok (.iconst 5, 1) := by decide +kernel
theorem dX4_ofT_3 : decode cX4_ofT 3 = .ok (.iload_n 0, 1) := by decide +kernel
theorem dX4_ofT_4 : decode cX4_ofT 4 = .ok (.imul, 1) := by decide +kernel
theorem dX4_ofT_5 : decode cX4_ofT 5 = .ok (.iadd, 1) := by decide +kernel
theorem dX4_ofT_6 : decode cX4_ofT 6 = .ok (.ireturn, 1) := by decide +kernel
set_option maxRecDepth 20000 in
theorem ggX4_isPerson_X4_isIn : GoodIn wsX4_isPerson wsX4_isIn := goodIn_r _ [5] (by decide +kernel) (by decide +kernel)
set_option maxRecDepth 20000 in
theorem gX4_isPerson_X4_isIn : GoodIn wsX4_isPerson (va_wsS RX4 47 yX4_isIn wsX4_isIn) := goodIn_app (goodIn_of _ (by decide +kernel)) ggX4_isPerson_X4_isIn
theorem dX4_isPerson_0 : decode cX4_isPerson 0 = .ok (.iload_n 1, 1) := by decide +kernel
theorem dX4_isPerson_1 : decode cX4_isPerson 1 = .ok (.iconst 0, 1) := by decide +kernel
theorem dX4_isPerson_2 : decode cX4_isPerson 2 = .ok (.aload_n 0, 1) := by decide +kernel
theorem dX4_isPerson_3 : decode cX4_isPerson 3 = .ok (.getfield 9, 3) := by decide +kernel
theorem dX4_isPerson_6 : decode cX4_isPerson 6 = .ok (.iconst 0, 1) := by decide +kernel
theorem dX4_isPerson_7 : decode cX4_isPerson 7 = .ok (.iaload, 1) := by decide +kernel
theorem dX4_isPerson_8 : decode cX4_isPerson 8 = .ok (.iconst 1, 1) := by decide +kernel
theorem dX4_isPerson_9 : decode cX4_isPerson 9 = .ok (.isub, 1) := by decide +kernel
theorem dX4_isPerson_10 : decode cX4_isPerson 10 = .ok (.invokestatic 47, 3) := by decide +kernel
theorem dX4_isPerson_13 : decode cX4_isPerson 13 = .ok (.ireturn, 1) := by decide +kernel
set_option maxRecDepth 20000 in
theorem ggX4_isThing_X4_isIn : GoodIn wsX4_isThing wsX4_isIn := goodIn_r _ [5] (by decide +kernel) (by decide +kernel)
set_option maxRecDepth 20000 in
theorem gX4_isThing_X4_isIn : GoodIn wsX4_isThing (va_wsS RX4 47 yX4_isIn wsX4_isIn) := goodIn_app (goodIn_of _ (by decide +kernel)) ggX4_isThing_X4_isIn
theorem dX4_isThing_0 : decode cX4_isThing 0 = .ok (.iload_n 1, 1) := by decide +kernel
theorem dX4_isThing_1 : decode cX4_isThing 1 = .ok (.iconst 0, 1) := by decide +kernel
theorem dX4_isThing_2 : decode cX4_isThing 2 = .ok (.aload_n 0, 1) := by decide +kernel
theorem dX4_isThing_3 : decode cX4_isThing 3 = .ok (.getfield 9, 3) := by decide +kernel
theorem dX4_isThing_6 : decode cX4_isThing 6 = .ok (.iconst 1, 1) := by decide +kernel
theorem dX4_isThing_7 : decode cX4_isThing 7 = .ok (.iaload, 1) := by decide +kernel
theorem dX4_isThing_8 : decode cX4_isThing 8 = .ok (.iconst 1, 1) := by decide +kernel
theorem dX4_isThing_9 : decode cX4_isThing 9 = .ok (.isub, 1) := by decide +kernel
theorem dX4_isThing_10 : decode cX4_isThing 10 = .ok (.invokestatic 47, 3) := by decide +kernel
theorem dX4_isThing_13 : decode cX4_isThing 13 = .ok (.ireturn, 1) := by decide +kernel
theorem dX4_has_0 : decode cX4_has 0 = .ok (.iload_n 0, 1) := by decide +kernel
theorem dX4_has_1 : decode cX4_has 1 = .ok (.iload_n 1, 1) := by decide +kernel
theorem dX4_has_2 : decode cX4_has 2 = .ok (.ishr, 1) := by decide +kernel
theorem dX4_has_3 : decode cX4_has 3 = .ok (.iconst 1, 1) := by decide +kernel
theorem dX4_has_4 : decode cX4_has 4 = .ok (.iand, 1) := by decide +kernel
theorem dX4_has_5 : decode cX4_has 5 = .ok (.iconst 1, 1) := by decide +kernel
theorem dX4_has_6 : decode cX4_has 6 = .ok (.if_icmp .ne 7, 3) := by decide +kernel
theorem dX4_has_9 : decode cX4_has 9 = .ok (.iconst 1, 1) := by decide +kernel
theorem dX4_has_10 : decode cX4_has 10 = .ok (.goto 4, 3) := by decide +kernel
theorem dX4_has_13 : decode cX4_has 13 = .ok (.iconst 0, 1) := by decide +kernel
theorem dX4_has_14 : decode cX4_has 14 = .ok (.ireturn, 1) := by decide +kernel
theorem dX4_bits_0 : decode cX4_bits 0 = .ok (.iconst 0, 1) := by decide +kernel
theorem dX4_bits_1 : decode cX4_bits 1 = .ok (.istore_n 1, 1) := by decide +kernel
theorem dX4_bits_2 : decode cX4_bits 2 = .ok (.iconst 0, 1) := by decide +kernel
theorem dX4_bits_3 : decode cX4_bits 3 = .ok (.istore_n 2, 1) := by decide +kernel
theorem dX4_bits_4 : decode cX4_bits 4 = .ok (.iload_n 2, 1) := by decide +kernel
theorem dX4_bits_5 : decode cX4_bits 5 = .ok (.bipush 9, 2) := by decide +kernel
theorem dX4_bits_7 : decode cX4_bits 7 = .ok (.if_icmp .ge 17, 3) := by decide +kernel
theorem dX4_bits_10 : decode cX4_bits 10 = .ok (.iload_n 1, 1) := by decide +kernel
theorem dX4_bits_11 : decode cX4_bits 11 = .ok (.iload_n 0, 1) := by decide +kernel
theorem dX4_bits_12 : decode cX4_bits 12 = .ok (.iload_n 2, 1) := by decide +kernel
theorem dX4_bits_13 : decode cX4_bits 13 = .ok (.ishr, 1) := by decide +kernel
theorem dX4_bits_14 : decode cX4_bits 14 = .ok (.iconst 1, 1) := by decide +kernel
theorem dX4_bits_15 : decode cX4_bits 15 = .ok (.iand, 1) := by decide +kernel
theorem dX4_bits_16 : decode cX4_bits 16 = .ok (.iadd, 1) := by decide +kernel
theorem dX4_bits_17 : decode cX4_bits 17 = .ok (.istore_n 1, 1) := by decide +kernel
theorem dX4_bits_18 : decode cX4_bits 18 = .ok (.iinc 2 1, 3) := by decide +kernel
theorem dX4_bits_21 : decode cX4_bits 21 = .ok (.goto (-17), 3) := by decide +kernel
theorem dX4_bits_24 : decode cX4_bits 24 = .ok (.iload_n 1, 1) := by decide +kernel
theorem dX4_bits_25 : decode cX4_bits 25 = .ok (.ireturn, 1) := by decide +kernel
set_option maxRecDepth 20000 in
theorem ggX4_isWhole_X4_ofT : GoodIn wsX4_isWhole wsX4_ofT := goodIn_r _ [4] (by decide +kernel) (by decide +kernel)
set_option maxRecDepth 20000 in
theorem gX4_isWhole_X4_ofT : GoodIn wsX4_isWhole (va_wsS RX4 51 yX4_ofT wsX4_ofT) := goodIn_app (goodIn_of _ (by decide +kernel)) ggX4_isWhole_X4_ofT
theorem dX4_isWhole_0 : decode cX4_isWhole 0 = .ok (.aload_n 0, 1) := by decide +kernel
theorem dX4_isWhole_1 : decode cX4_isWhole 1 = .ok (.iload_n 1, 1) := by decide +kernel
theorem dX4_isWhole_2 : decode cX4_isWhole 2 = .ok (.invokestatic 51, 3) := by decide +kernel
theorem dX4_isWhole_5 : decode cX4_isWhole 5 = .ok (.iconst 4, 1) := by decide +kernel
theorem dX4_isWhole_6 : decode cX4_isWhole 6 = .ok (.iadd, 1) := by decide +kernel
theorem dX4_isWhole_7 : decode cX4_isWhole 7 = .ok (.iaload, 1) := by decide +kernel
theorem dX4_isWhole_8 : decode cX4_isWhole 8 = .ok (.bipush (-9), 2) := by decide +kernel
theorem dX4_isWhole_10 : decode cX4_isWhole 10 = .ok (.if_icmp .ne 7, 3) := by decide +kernel
theorem dX4_isWhole_13 : decode cX4_isWhole 13 = .ok (.iconst 1, 1) := by decide +kernel
theorem dX4_isWhole_14 : decode cX4_isWhole 14 = .ok (.goto 4, 3) := by decide +kernel
theorem dX4_isWhole_17 : decode cX4_isWhole 17 = .ok (.iconst 0, 1) := by decide +kernel
theorem dX4_isWhole_18 : decode cX4_isWhole 18 = .ok (.ireturn, 1) := by decide +kernel
theorem dX4_wearBy_0 : decode cX4_wearBy 0 = .ok (.iconst 1, 1) := by decide +kernel
theorem dX4_wearBy_1 : decode cX4_wearBy 1 = .ok (.iload_n 2, 1) := by decide +kernel
theorem dX4_wearBy_2 : decode cX4_wearBy 2 = .ok (.iconst 2, 1) := by decide +kernel
theorem dX4_wearBy_3 : decode cX4_wearBy 3 = .ok (.irem, 1) := by decide +kernel
theorem dX4_wearBy_4 : decode cX4_wearBy 4 = .ok (.isub, 1) := by decide +kernel
theorem dX4_wearBy_5 : decode cX4_wearBy 5 = .ok (.istore_n 3, 1) := by decide +kernel
theorem dX4_wearBy_6 : decode cX4_wearBy 6 = .ok (.iload_n 0, 1) := by decide +kernel
theorem dX4_wearBy_7 : decode cX4_wearBy 7 = .ok (.tableswitch 55 1 5 #[33, 35, 39, 43, 49], 33) := by decide +kernel
theorem dX4_wearBy_40 : decode cX4_wearBy 40 = .ok (.iconst 0, 1) := by decide +kernel
theorem dX4_wearBy_41 : decode cX4_wearBy 41 = .ok (.ireturn, 1) := by decide +kernel
theorem dX4_wearBy_42 : decode cX4_wearBy 42 = .ok (.iconst 1, 1) := by decide +kernel
theorem dX4_wearBy_43 : decode cX4_wearBy 43 = .ok (.iload_n 3, 1) := by decide +kernel
theorem dX4_wearBy_44 : decode cX4_wearBy 44 = .ok (.iadd, 1) := by decide +kernel
theorem dX4_wearBy_45 : decode cX4_wearBy 45 = .ok (.ireturn, 1) := by decide +kernel
theorem dX4_wearBy_46 : decode cX4_wearBy 46 = .ok (.iconst 2, 1) := by decide +kernel
theorem dX4_wearBy_47 : decode cX4_wearBy 47 = .ok (.iload_n 3, 1) := by decide +kernel
theorem dX4_wearBy_48 : decode cX4_wearBy 48 = .ok (.iadd, 1) := by decide +kernel
theorem dX4_wearBy_49 : decode cX4_wearBy 49 = .ok (.ireturn, 1) := by decide +kernel
theorem dX4_wearBy_50 : decode cX4_wearBy 50 = .ok (.iload_n 3, 1) := by decide +kernel
theorem dX4_wearBy_51 : decode cX4_wearBy 51 = .ok (.iload_n 1, 1) := by decide +kernel
theorem dX4_wearBy_52 : decode cX4_wearBy 52 = .ok (.iconst 4, 1) := by decide +kernel
theorem dX4_wearBy_53 : decode cX4_wearBy 53 = .ok (.idiv, 1) := by decide +kernel
theorem dX4_wearBy_54 : decode cX4_wearBy 54 = .ok (.iadd, 1) := by decide +kernel
theorem dX4_wearBy_55 : decode cX4_wearBy 55 = .ok (.ireturn, 1) := by decide +kernel
theorem dX4_wearBy_56 : decode cX4_wearBy 56 = .ok (.iconst 2, 1) := by decide +kernel
theorem dX4_wearBy_57 : decode cX4_wearBy 57 = .ok (.iload_n 3, 1) := by decide +kernel
theorem dX4_wearBy_58 : decode cX4_wearBy 58 = .ok (.iadd, 1) := by decide +kernel
theorem dX4_wearBy_59 : decode cX4_wearBy 59 = .ok (.iconst 2, 1) := by decide +kernel
theorem dX4_wearBy_60 : decode cX4_wearBy 60 = .ok (.idiv, 1) := by decide +kernel
theorem dX4_wearBy_61 : decode cX4_wearBy 61 = .ok (.ireturn, 1) := by decide +kernel
theorem dX4_wearBy_62 : decode cX4_wearBy 62 = .ok (.iload_n 3, 1) := by decide +kernel
theorem dX4_wearBy_63 : decode cX4_wearBy 63 = .ok (.ireturn, 1) := by decide +kernel
set_option maxRecDepth 20000 in
theorem ggX4_hard_X4_ofT : GoodIn wsX4_hard wsX4_ofT := goodIn_r _ [4] (by decide +kernel) (by decide +kernel)
set_option maxRecDepth 20000 in
theorem gX4_hard_X4_ofT : GoodIn wsX4_hard (va_wsS RX4 51 yX4_ofT wsX4_ofT) := goodIn_app (goodIn_of _ (by decide +kernel)) ggX4_hard_X4_ofT
set_option maxRecDepth 20000 in
theorem ggX4_hard_X4_least : GoodIn wsX4_hard wsX4_least := goodIn_r _ [7] (by decide +kernel) (by decide +kernel)
set_option maxRecDepth 20000 in
theorem gX4_hard_X4_least : GoodIn wsX4_hard (va_wsS RX4 54 yX4_least wsX4_least) := goodIn_app (goodIn_of _ (by decide +kernel)) ggX4_hard_X4_least
set_option maxRecDepth 20000 in
theorem ggX4_hard_X4_ofP : GoodIn wsX4_hard wsX4_ofP := goodIn_r _ [10] (by decide +kernel) (by decide +kernel)
set_option maxRecDepth 20000 in
theorem gX4_hard_X4_ofP : GoodIn wsX4_hard (va_wsS RX4 58 yX4_ofP wsX4_ofP) := goodIn_app (goodIn_of _ (by decide +kernel)) ggX4_hard_X4_ofP
theorem dX4_hard_0 : decode cX4_hard 0 = .ok (.aload_n 0, 1) := by decide +kernel
theorem dX4_hard_1 : decode cX4_hard 1 = .ok (.iload_n 1, 1) := by decide +kernel
theorem dX4_hard_2 : decode cX4_hard 2 = .ok (.invokestatic 51, 3) := by decide +kernel
theorem dX4_hard_5 : decode cX4_hard 5 = .ok (.iconst 1, 1) := by decide +kernel
theorem dX4_hard_6 : decode cX4_hard 6 = .ok (.iadd, 1) := by decide +kernel
theorem dX4_hard_7 : decode cX4_hard 7 = .ok (.iaload, 1) := by decide +kernel
theorem dX4_hard_8 : decode cX4_hard 8 = .ok (.istore_n 2, 1) := by decide +kernel
theorem dX4_hard_9 : decode cX4_hard 9 = .ok (.aload_n 0, 1) := by decide +kernel
theorem dX4_hard_10 : decode cX4_hard 10 = .ok (.iload_n 1, 1) := by decide +kernel
theorem dX4_hard_11 : decode cX4_hard 11 = .ok (.invokestatic 51, 3) := by decide +kernel
theorem dX4_hard_14 : decode cX4_hard 14 = .ok (.iconst 0, 1) := by decide +kernel
theorem dX4_hard_15 : decode cX4_hard 15 = .ok (.iadd, 1) := by decide +kernel
theorem dX4_hard_16 : decode cX4_hard 16 = .ok (.iaload, 1) := by decide +kernel
theorem dX4_hard_17 : decode cX4_hard 17 = .ok (.tableswitch 89 1 5 #[35, 89, 39, 48, 57], 35) := by decide +kernel
theorem dX4_hard_52 : decode cX4_hard 52 = .ok (.iload_n 2, 1) := by decide +kernel
theorem dX4_hard_53 : decode cX4_hard 53 = .ok (.iconst 2, 1) := by decide +kernel
theorem dX4_hard_54 : decode cX4_hard 54 = .ok (.idiv, 1) := by decide +kernel
theorem dX4_hard_55 : decode cX4_hard 55 = .ok (.ireturn, 1) := by decide +kernel
theorem dX4_hard_56 : decode cX4_hard 56 = .ok (.bipush 9, 2) := by decide +kernel
theorem dX4_hard_58 : decode cX4_hard 58 = .ok (.iload_n 2, 1) := by decide +kernel
theorem dX4_hard_59 : decode cX4_hard 59 = .ok (.iconst 1, 1) := by decide +kernel
theorem dX4_hard_60 : decode cX4_hard 60 = .ok (.iadd, 1) := by decide +kernel
theorem dX4_hard_61 : decode cX4_hard 61 = .ok (.invokestatic 54, 3) := by decide +kernel
theorem dX4_hard_64 : decode cX4_hard 64 = .ok (.ireturn, 1) := by decide +kernel
theorem dX4_hard_65 : decode cX4_hard 65 = .ok (.bipush 9, 2) := by decide +kernel
theorem dX4_hard_67 : decode cX4_hard 67 = .ok (.iload_n 2, 1) := by decide +kernel
theorem dX4_hard_68 : decode cX4_hard 68 = .ok (.iconst 2, 1) := by decide +kernel
theorem dX4_hard_69 : decode cX4_hard 69 = .ok (.iadd, 1) := by decide +kernel
theorem dX4_hard_70 : decode cX4_hard 70 = .ok (.invokestatic 54, 3) := by decide +kernel
theorem dX4_hard_73 : decode cX4_hard 73 = .ok (.ireturn, 1) := by decide +kernel
theorem dX4_hard_74 : decode cX4_hard 74 = .ok (.aload_n 0, 1) := by decide +kernel
theorem dX4_hard_75 : decode cX4_hard 75 = .ok (.aload_n 0, 1) := by decide +kernel
theorem dX4_hard_76 : decode cX4_hard 76 = .ok (.iload_n 1, 1) := by decide +kernel
theorem dX4_hard_77 : decode cX4_hard 77 = .ok (.invokestatic 51, 3) := by decide +kernel
theorem dX4_hard_80 : decode cX4_hard 80 = .ok (.iconst 2, 1) := by decide +kernel
theorem dX4_hard_81 : decode cX4_hard 81 = .ok (.iadd, 1) := by decide +kernel
theorem dX4_hard_82 : decode cX4_hard 82 = .ok (.iaload, 1) := by decide +kernel
theorem dX4_hard_83 : decode cX4_hard 83 = .ok (.invokestatic 58, 3) := by decide +kernel
theorem dX4_hard_86 : decode cX4_hard 86 = .ok (.iconst 0, 1) := by decide +kernel
theorem dX4_hard_87 : decode cX4_hard 87 = .ok (.iadd, 1) := by decide +kernel
theorem dX4_hard_88 : decode cX4_hard 88 = .ok (.iaload, 1) := by decide +kernel
theorem dX4_hard_89 : decode cX4_hard 89 = .ok (.iconst 5, 1) := by decide +kernel
theorem dX4_hard_90 : decode cX4_hard 90 = .ok (.if_icmp .lt 7, 3) := by decide +kernel
theorem dX4_hard_93 : decode cX4_hard 93 = .ok (.iconst 0, 1) := by decide +kernel
theorem dX4_hard_94 : decode cX4_hard 94 = .ok (.goto 11, 3) := by decide +kernel
theorem dX4_hard_97 : decode cX4_hard 97 = .ok (.bipush 9, 2) := by decide +kernel
theorem dX4_hard_99 : decode cX4_hard 99 = .ok (.iload_n 2, 1) := by decide +kernel
theorem dX4_hard_100 : decode cX4_hard 100 = .ok (.iconst 1, 1) := by decide +kernel
theorem dX4_hard_101 : decode cX4_hard 101 = .ok (.iadd, 1) := by decide +kernel
theorem dX4_hard_102 : decode cX4_hard 102 = .ok (.invokestatic 54, 3) := by decide +kernel
theorem dX4_hard_105 : decode cX4_hard 105 = .ok (.ireturn, 1) := by decide +kernel
theorem dX4_hard_106 : decode cX4_hard 106 = .ok (.iload_n 2, 1) := by decide +kernel
theorem dX4_hard_107 : decode cX4_hard 107 = .ok (.ireturn, 1) := by decide +kernel
set_option maxRecDepth 20000 in
theorem ggX4_isAble_X4_ofP : GoodIn wsX4_isAble wsX4_ofP := goodIn_r _ [4] (by decide +kernel) (by decide +kernel)
set_option maxRecDepth 20000 in
theorem gX4_isAble_X4_ofP : GoodIn wsX4_isAble (va_wsS RX4 58 yX4_ofP wsX4_ofP) := goodIn_app (goodIn_of _ (by decide +kernel)) ggX4_isAble_X4_ofP
set_option maxRecDepth 20000 in
theorem ggX4_isAble_X4_hard : GoodIn wsX4_isAble wsX4_hard := goodIn_r _ [7, 8, 9, 3, 10, 11, 12, 13, 1, 2, 4] (by decide +kernel) (by decide +kernel)
set_option maxRecDepth 20000 in
theorem gX4_isAble_X4_hard : GoodIn wsX4_isAble (va_wsS RX4 61 yX4_hard wsX4_hard) := goodIn_app (goodIn_of _ (by decide +kernel)) ggX4_isAble_X4_hard
theorem dX4_isAble_0 : decode cX4_isAble 0 = .ok (.aload_n 0, 1) := by decide +kernel
theorem dX4_isAble_1 : decode cX4_isAble 1 = .ok (.iload_n 1, 1) := by decide +kernel
theorem dX4_isAble_2 : decode cX4_isAble 2 = .ok (.invokestatic 58, 3) := by decide +kernel
theorem dX4_isAble_5 : decode cX4_isAble 5 = .ok (.iconst 0, 1) := by decide +kernel
theorem dX4_isAble_6 : decode cX4_isAble 6 = .ok (.iadd, 1) := by decide +kernel
theorem dX4_isAble_7 : decode cX4_isAble 7 = .ok (.iaload, 1) := by decide +kernel
theorem dX4_isAble_8 : decode cX4_isAble 8 = .ok (.aload_n 0, 1) := by decide +kernel
theorem dX4_isAble_9 : decode cX4_isAble 9 = .ok (.iload_n 2, 1) := by decide +kernel
theorem dX4_isAble_10 : decode cX4_isAble 10 = .ok (.invokestatic 61, 3) := by decide +kernel
theorem dX4_isAble_13 : decode cX4_isAble 13 = .ok (.if_icmp .lt 7, 3) := by decide +kernel
theorem dX4_isAble_16 : decode cX4_isAble 16 = .ok (.iconst 1, 1) := by decide +kernel
theorem dX4_isAble_17 : decode cX4_isAble 17 = .ok (.goto 4, 3) := by decide +kernel
theorem dX4_isAble_20 : decode cX4_isAble 20 = .ok (.iconst 0, 1) := by decide +kernel
theorem dX4_isAble_21 : decode cX4_isAble 21 = .ok (.ireturn, 1) := by decide +kernel
set_option maxRecDepth 20000 in
theorem ggX4_mayMend_X4_ofT : GoodIn wsX4_mayMend wsX4_ofT := goodIn_r _ [4] (by decide +kernel) (by decide +kernel)
set_option maxRecDepth 20000 in
theorem gX4_mayMend_X4_ofT : GoodIn wsX4_mayMend (va_wsS RX4 51 yX4_ofT wsX4_ofT) := goodIn_app (goodIn_of _ (by decide +kernel)) ggX4_mayMend_X4_ofT
set_option maxRecDepth 20000 in
theorem ggX4_mayMend_X4_isAble : GoodIn wsX4_mayMend wsX4_isAble := goodIn_r _ [7, 8, 9, 3, 10, 11, 12, 13, 1, 2, 4, 14, 15, 16] (by decide +kernel) (by decide +kernel)
set_option maxRecDepth 20000 in
theorem gX4_mayMend_X4_isAble : GoodIn wsX4_mayMend (va_wsS RX4 65 yX4_isAble wsX4_isAble) := goodIn_app (goodIn_of _ (by decide +kernel)) ggX4_mayMend_X4_isAble
theorem dX4_mayMend_0 : decode cX4_mayMend 0 = .ok (.aload_n 0, 1) := by decide +kernel
theorem dX4_mayMend_1 : decode cX4_mayMend 1 = .ok (.iload_n 2, 1) := by decide +kernel
theorem dX4_mayMend_2 : decode cX4_mayMend 2 = .ok (.invokestatic 51, 3) := by decide +kernel
theorem dX4_mayMend_5 : decode cX4_mayMend 5 = .ok (.iconst 4, 1) := by decide +kernel
theorem dX4_mayMend_6 : decode cX4_mayMend 6 = .ok (.iadd, 1) := by decide +kernel
theorem dX4_mayMend_7 : decode cX4_mayMend 7 = .ok (.iaload, 1) := by decide +kernel
theorem dX4_mayMend_8 : decode cX4_mayMend 8 = .ok (.ifCond .lt 28, 3) := by decide +kernel
theorem dX4_mayMend_11 : decode cX4_mayMend 11 = .ok (.aload_n 0, 1) := by decide +kernel
theorem dX4_mayMend_12 : decode cX4_mayMend 12 = .ok (.iload_n 2, 1) := by decide +kernel
theorem dX4_mayMend_13 : decode cX4_mayMend 13 = .ok (.invokestatic 51, 3) := by decide +kernel
theorem dX4_mayMend_16 : decode cX4_mayMend 16 = .ok (.iconst 4, 1) := by decide +kernel
theorem dX4_mayMend_17 : decode cX4_mayMend 17 = .ok (.iadd, 1) := by decide +kernel
theorem dX4_mayMend_18 : decode cX4_mayMend 18 = .ok (.iaload, 1) := by decide +kernel
theorem dX4_mayMend_19 : decode cX4_mayMend 19 = .ok (.iload_n 1, 1) := by decide +kernel
theorem dX4_mayMend_20 : decode cX4_mayMend 20 = .ok (.if_icmp .eq 16, 3) := by decide +kernel
theorem dX4_mayMend_23 : decode cX4_mayMend 23 = .ok (.aload_n 0, 1) := by decide +kernel
theorem dX4_mayMend_24 : decode cX4_mayMend 24 = .ok (.iload_n 1, 1) := by decide +kernel
theorem dX4_mayMend_25 : decode cX4_mayMend 25 = .ok (.iload_n 2, 1) := by decide +kernel
theorem dX4_mayMend_26 : decode cX4_mayMend 26 = .ok (.invokestatic 65, 3) := by decide +kernel
theorem dX4_mayMend_29 : decode cX4_mayMend 29 = .ok (.ifCond .eq 7, 3) := by decide +kernel
theorem dX4_mayMend_32 : decode cX4_mayMend 32 = .ok (.iconst 1, 1) := by decide +kernel
theorem dX4_mayMend_33 : decode cX4_mayMend 33 = .ok (.goto 4, 3) := by decide +kernel
theorem dX4_mayMend_36 : decode cX4_mayMend 36 = .ok (.iconst 0, 1) := by decide +kernel
theorem dX4_mayMend_37 : decode cX4_mayMend 37 = .ok (.ireturn, 1) := by decide +kernel
set_option maxRecDepth 20000 in
theorem ggX4_mendsIn_X4_ofT : GoodIn wsX4_mendsIn wsX4_ofT := goodIn_r _ [4] (by decide +kernel) (by decide +kernel)
set_option maxRecDepth 20000 in
theorem gX4_mendsIn_X4_ofT : GoodIn wsX4_mendsIn (va_wsS RX4 51 yX4_ofT wsX4_ofT) := goodIn_app (goodIn_of _ (by decide +kernel)) ggX4_mendsIn_X4_ofT
set_option maxRecDepth 20000 in
theorem ggX4_mendsIn_X4_ofP : GoodIn wsX4_mendsIn wsX4_ofP := goodIn_r _ [7] (by decide +kernel) (by decide +kernel)
set_option maxRecDepth 20000 in
theorem gX4_mendsIn_X4_ofP : GoodIn wsX4_mendsIn (va_wsS RX4 58 yX4_ofP wsX4_ofP) := goodIn_app (goodIn_of _ (by decide +kernel)) ggX4_mendsIn_X4_ofP
set_option maxRecDepth 20000 in
theorem ggX4_mendsIn_X4_least : GoodIn wsX4_mendsIn wsX4_least := goodIn_r _ [10] (by decide +kernel) (by decide +kernel)
set_option maxRecDepth 20000 in
theorem gX4_mendsIn_X4_least : GoodIn wsX4_mendsIn (va_wsS RX4 54 yX4_least wsX4_least) := goodIn_app (goodIn_of _ (by decide +kernel)) ggX4_mendsIn_X4_least
theorem dX4_mendsIn_0 : decode cX4_mendsIn 0 = .ok (.aload_n 0, 1) := by decide +kernel
theorem dX4_mendsIn_1 : decode cX4_mendsIn 1 = .ok (.iload_n 2, 1) := by decide +kernel
theorem dX4_mendsIn_2 : decode cX4_mendsIn 2 = .ok (.invokestatic 51, 3) := by decide +kernel
theorem dX4_mendsIn_5 : decode cX4_mendsIn 5 = .ok (.iconst 4, 1) := by decide +kernel
theorem dX4_mendsIn_6 : decode cX4_mendsIn 6 = .ok (.iadd, 1) := by decide +kernel
theorem dX4_mendsIn_7 : decode cX4_mendsIn 7 = .ok (.bipush (-9), 2) := by decide +kernel
theorem dX4_mendsIn_9 : decode cX4_mendsIn 9 = .ok (.iastore, 1) := by decide +kernel
theorem dX4_mendsIn_10 : decode cX4_mendsIn 10 = .ok (.aload_n 0, 1) := by decide +kernel
theorem dX4_mendsIn_11 : decode cX4_mendsIn 11 = .ok (.iload_n 2, 1) := by decide +kernel
theorem dX4_mendsIn_12 : decode cX4_mendsIn 12 = .ok (.invokestatic 51, 3) := by decide +kernel
theorem dX4_mendsIn_15 : decode cX4_mendsIn 15 = .ok (.iconst 3, 1) := by decide +kernel
theorem dX4_mendsIn_16 : decode cX4_mendsIn 16 = .ok (.iadd, 1) := by decide +kernel
theorem dX4_mendsIn_17 : decode cX4_mendsIn 17 = .ok (.iconst 0, 1) := by decide +kernel
theorem dX4_mendsIn_18 : decode cX4_mendsIn 18 = .ok (.iastore, 1) := by decide +kernel
theorem dX4_mendsIn_19 : decode cX4_mendsIn 19 = .ok (.aload_n 0, 1) := by decide +kernel
theorem dX4_mendsIn_20 : decode cX4_mendsIn 20 = .ok (.iload_n 1, 1) := by decide +kernel
theorem dX4_mendsIn_21 : decode cX4_mendsIn 21 = .ok (.invokestatic 58, 3) := by decide +kernel
theorem dX4_mendsIn_24 : decode cX4_mendsIn 24 = .ok (.iconst 1, 1) := by decide +kernel
theorem dX4_mendsIn_25 : decode cX4_mendsIn 25 = .ok (.iadd, 1) := by decide +kernel
theorem dX4_mendsIn_26 : decode cX4_mendsIn 26 = .ok (.sipush 999, 3) := by decide +kernel
theorem dX4_mendsIn_29 : decode cX4_mendsIn 29 = .ok (.aload_n 0, 1) := by decide +kernel
theorem dX4_mendsIn_30 : decode cX4_mendsIn 30 = .ok (.iload_n 1, 1) := by decide +kernel
theorem dX4_mendsIn_31 : decode cX4_mendsIn 31 = .ok (.invokestatic 58, 3) := by decide +kernel
theorem dX4_mendsIn_34 : decode cX4_mendsIn 34 = .ok (.iconst 1, 1) := by decide +kernel
theorem dX4_mendsIn_35 : decode cX4_mendsIn 35 = .ok (.iadd, 1) := by decide +kernel
theorem dX4_mendsIn_36 : decode cX4_mendsIn 36 = .ok (.iaload, 1) := by decide +kernel
theorem dX4_mendsIn_37 : decode cX4_mendsIn 37 = .ok (.iconst 1, 1) := by decide +kernel
theorem dX4_mendsIn_38 : decode cX4_mendsIn 38 = .ok (.iadd, 1) := by decide +kernel
theorem dX4_mendsIn_39 : decode cX4_mendsIn 39 = .ok (.invokestatic 54, 3) := by decide +kernel
theorem dX4_mendsIn_42 : decode cX4_mendsIn 42 = .ok (.iastore, 1) := by decide +kernel
theorem dX4_mendsIn_43 : decode cX4_mendsIn 43 = .ok (.return_, 1) := by decide +kernel
set_option maxRecDepth 20000 in
theorem ggX4_leastMended_X4_mayMend : GoodIn wsX4_leastMended wsX4_mayMend := goodIn_r _ [4, 5, 6, 3, 7, 8, 9, 10, 11, 12, 13, 14, 15, 16, 17, 18, 19] (by decide +kernel) (by decide +kernel)
set_option maxRecDepth 20000 in
theorem gX4_leastMended_X4_mayMend : GoodIn wsX4_leastMended (va_wsS RX4 69 yX4_mayMend wsX4_mayMend) := goodIn_app (goodIn_of _ (by decide +kernel)) ggX4_leastMended_X4_mayMend
theorem dX4_leastMended_0 : decode cX4_leastMended 0 = .ok (.iconst 0, 1) := by decide +kernel
theorem dX4_leastMended_1 : decode cX4_leastMended 1 = .ok (.istore_n 2, 1) := by decide +kernel
theorem dX4_leastMended_2 : decode cX4_leastMended 2 = .ok (.iload_n 2, 1) := by decide +kernel
theorem dX4_leastMended_3 : decode cX4_leastMended 3 = .ok (.aload_n 0, 1) := by decide +kernel
theorem dX4_leastMended_4 : decode cX4_leastMended 4 = .ok (.iconst 1, 1) := by decide +kernel
theorem dX4_leastMended_5 : decode cX4_leastMended 5 = .ok (.iaload, 1) := by decide +kernel
theorem dX4_leastMended_6 : decode cX4_leastMended 6 = .ok (.if_icmp .ge 20, 3) := by decide +kernel
theorem dX4_leastMended_9 : decode cX4_leastMended 9 = .ok (.aload_n 0, 1) := by decide +kernel
theorem dX4_leastMended_10 : decode cX4_leastMended 10 = .ok (.iload_n 1, 1) := by decide +kernel
theorem dX4_leastMended_11 : decode cX4_leastMended 11 = .ok (.iload_n 2, 1) := by decide +kernel
theorem dX4_leastMended_12 : decode cX4_leastMended 12 = .ok (.invokestatic 69, 3) := by decide +kernel
theorem dX4_leastMended_15 : decode cX4_leastMended 15 = .ok (.ifCond .eq 5, 3) := by decide +kernel
theorem dX4_leastMended_18 : decode cX4_leastMended 18 = .ok (.iload_n 2, 1) := by decide +kernel
theorem dX4_leastMended_19 : decode cX4_leastMended 19 = .ok (.ireturn, 1) := by decide +kernel
theorem dX4_leastMended_20 : decode cX4_leastMended 20 = .ok (.iinc 2 1, 3) := by decide +kernel
theorem dX4_leastMended_23 : decode cX4_leastMended 23 = .ok (.goto (-21), 3) := by decide +kernel
theorem dX4_leastMended_26 : decode cX4_leastMended 26 = .ok (.bipush (-9), 2) := by decide +kernel
theorem dX4_leastMended_28 : decode cX4_leastMended 28 = .ok (.ireturn, 1) := by decide +kernel
set_option maxRecDepth 20000 in
theorem ggX4_day_X4_isWhole : GoodIn wsX4_day wsX4_isWhole := goodIn_r _ [4, 5, 6, 3, 7] (by decide +kernel) (by decide +kernel)
set_option maxRecDepth 20000 in
theorem gX4_day_X4_isWhole : GoodIn wsX4_day (va_wsS RX4 72 yX4_isWhole wsX4_isWhole) := goodIn_app (goodIn_of _ (by decide +kernel)) ggX4_day_X4_isWhole
set_option maxRecDepth 20000 in
theorem ggX4_day_X4_ofT : GoodIn wsX4_day wsX4_ofT := goodIn_r _ [7] (by decide +kernel) (by decide +kernel)
set_option maxRecDepth 20000 in
theorem gX4_day_X4_ofT : GoodIn wsX4_day (va_wsS RX4 51 yX4_ofT wsX4_ofT) := goodIn_app (goodIn_of _ (by decide +kernel)) ggX4_day_X4_ofT
set_option maxRecDepth 20000 in
theorem ggX4_day_X4_wearBy : GoodIn wsX4_day wsX4_wearBy := goodIn_r _ [10] (by decide +kernel) (by decide +kernel)
set_option maxRecDepth 20000 in
theorem gX4_day_X4_wearBy : GoodIn wsX4_day (va_wsS RX4 76 yX4_wearBy wsX4_wearBy) := goodIn_app (goodIn_of _ (by decide +kernel)) ggX4_day_X4_wearBy
set_option maxRecDepth 20000 in
theorem ggX4_day_X4_least : GoodIn wsX4_day wsX4_least := goodIn_r _ [13] (by decide +kernel) (by decide +kernel)
set_option maxRecDepth 20000 in
theorem gX4_day_X4_least : GoodIn wsX4_day (va_wsS RX4 54 yX4_least wsX4_least) := goodIn_app (goodIn_of _ (by decide +kernel)) ggX4_day_X4_least
set_option maxRecDepth 20000 in
theorem ggX4_day_X4_leastMended : GoodIn wsX4_day wsX4_leastMended := goodIn_r _ [16, 17, 18, 3, 19, 5, 6, 7, 20, 21, 22, 23, 24, 25, 26, 27, 28, 11, 12, 13] (by decide +kernel) (by decide +kernel)
set_option maxRecDepth 20000 in
theorem gX4_day_X4_leastMended : GoodIn wsX4_day (va_wsS RX4 80 yX4_leastMended wsX4_leastMended) := goodIn_app (goodIn_of _ (by decide +kernel)) ggX4_day_X4_leastMended
set_option maxRecDepth 20000 in
theorem ggX4_day_X4_mendsIn : GoodIn wsX4_day wsX4_mendsIn := goodIn_r _ [31, 5, 6, 3, 7, 23, 24, 25, 11, 12, 13] (by decide +kernel) (by decide +kernel)
set_option maxRecDepth 20000 in
theorem gX4_day_X4_mendsIn : GoodIn wsX4_day (va_wsS RX4 83 yX4_mendsIn wsX4_mendsIn) := goodIn_app (goodIn_of _ (by decide +kernel)) ggX4_day_X4_mendsIn
theorem dX4_day_0 : decode cX4_day 0 = .ok (.aload_n 0, 1) := by decide +kernel
theorem dX4_day_1 : decode cX4_day 1 = .ok (.iconst 2, 1) := by decide +kernel
theorem dX4_day_2 : decode cX4_day 2 = .ok (.dup2, 1) := by decide +kernel
theorem dX4_day_3 : decode cX4_day 3 = .ok (.iaload, 1) := by decide +kernel
theorem dX4_day_4 : decode cX4_day 4 = .ok (.iconst 1, 1) := by decide +kernel
theorem dX4_day_5 : decode cX4_day 5 = .ok (.iadd, 1) := by decide +kernel
theorem dX4_day_6 : decode cX4_day 6 = .ok (.iastore, 1) := by decide +kernel
theorem dX4_day_7 : decode cX4_day 7 = .ok (.iconst 0, 1) := by decide +kernel
theorem dX4_day_8 : decode cX4_day 8 = .ok (.istore_n 2, 1) := by decide +kernel
theorem dX4_day_9 : decode cX4_day 9 = .ok (.iload_n 2, 1) := by decide +kernel
theorem dX4_day_10 : decode cX4_day 10 = .ok (.aload_n 0, 1) := by decide +kernel
theorem dX4_day_11 : decode cX4_day 11 = .ok (.iconst 1, 1) := by decide +kernel
theorem dX4_day_12 : decode cX4_day 12 = .ok (.iaload, 1) := by decide +kernel
theorem dX4_day_13 : decode cX4_day 13 = .ok (.if_icmp .ge 84, 3) := by decide +kernel
theorem dX4_day_16 : decode cX4_day 16 = .ok (.aload_n 0, 1) := by decide +kernel
theorem dX4_day_17 : decode cX4_day 17 = .ok (.iload_n 2, 1) := by decide +kernel
theorem dX4_day_18 : decode cX4_day 18 = .ok (.invokestatic 72, 3) := by decide +kernel
theorem dX4_day_21 : decode cX4_day 21 = .ok (.ifCond .ne 6, 3) := by decide +kernel
theorem dX4_day_24 : decode cX4_day 24 = .ok (.goto 67, 3) := by decide +kernel
theorem dX4_day_27 : decode cX4_day 27 = .ok (.aload_n 0, 1) := by decide +kernel
theorem dX4_day_28 : decode cX4_day 28 = .ok (.iload_n 2, 1) := by decide +kernel
theorem dX4_day_29 : decode cX4_day 29 = .ok (.invokestatic 51, 3) := by decide +kernel
theorem dX4_day_32 : decode cX4_day 32 = .ok (.iconst 3, 1) := by decide +kernel
theorem dX4_day_33 : decode cX4_day 33 = .ok (.iadd, 1) := by decide +kernel
theorem dX4_day_34 : decode cX4_day 34 = .ok (.iaload, 1) := by decide +kernel
theorem dX4_day_35 : decode cX4_day 35 = .ok (.iload_n 1, 1) := by decide +kernel
theorem dX4_day_36 : decode cX4_day 36 = .ok (.aload_n 0, 1) := by decide +kernel
theorem dX4_day_37 : decode cX4_day 37 = .ok (.iload_n 2, 1) := by decide +kernel
theorem dX4_day_38 : decode cX4_day 38 = .ok (.invokestatic 51, 3) := by decide +kernel
theorem dX4_day_41 : decode cX4_day 41 = .ok (.iconst 0, 1) := by decide +kernel
theorem dX4_day_42 : decode cX4_day 42 = .ok (.iadd, 1) := by decide +kernel
theorem dX4_day_43 : decode cX4_day 43 = .ok (.iaload, 1) := by decide +kernel
theorem dX4_day_44 : decode cX4_day 44 = .ok (.aload_n 0, 1) := by decide +kernel
theorem dX4_day_45 : decode cX4_day 45 = .ok (.iload_n 2, 1) := by decide +kernel
theorem dX4_day_46 : decode cX4_day 46 = .ok (.invokestatic 51, 3) := by decide +kernel
theorem dX4_day_49 : decode cX4_day 49 = .ok (.iconst 1, 1) := by decide +kernel
theorem dX4_day_50 : decode cX4_day 50 = .ok (.iadd, 1) := by decide +kernel
theorem dX4_day_51 : decode cX4_day 51 = .ok (.iaload, 1) := by decide +kernel
theorem dX4_day_52 : decode cX4_day 52 = .ok (.aload_n 0, 1) := by decide +kernel
theorem dX4_day_53 : decode cX4_day 53 = .ok (.iconst 2, 1) := by decide +kernel
theorem dX4_day_54 : decode cX4_day 54 = .ok (.iaload, 1) := by decide +kernel
theorem dX4_day_55 : decode cX4_day 55 = .ok (.invokestatic 76, 3) := by decide +kernel
theorem dX4_day_58 : decode cX4_day 58 = .ok (.imul, 1) := by decide +kernel
theorem dX4_day_59 : decode cX4_day 59 = .ok (.iadd, 1) := by decide +kernel
theorem dX4_day_60 : decode cX4_day 60 = .ok (.istore_n 3, 1) := by decide +kernel
theorem dX4_day_61 : decode cX4_day 61 = .ok (.aload_n 0, 1) := by decide +kernel
theorem dX4_day_62 : decode cX4_day 62 = .ok (.iload_n 2, 1) := by decide +kernel
theorem dX4_day_63 : decode cX4_day 63 = .ok (.invokestatic 51, 3) := by decide +kernel
theorem dX4_day_66 : decode cX4_day 66 = .ok (.iconst 3, 1) := by decide +kernel
theorem dX4_day_67 : decode cX4_day 67 = .ok (.iadd, 1) := by decide +kernel
theorem dX4_day_68 : decode cX4_day 68 = .ok (.bipush 9, 2) := by decide +kernel
theorem dX4_day_70 : decode cX4_day 70 = .ok (.iload_n 3, 1) := by decide +kernel
theorem dX4_day_71 : decode cX4_day 71 = .ok (.invokestatic 54, 3) := by decide +kernel
theorem dX4_day_74 : decode cX4_day 74 = .ok (.iastore, 1) := by decide +kernel
theorem dX4_day_75 : decode cX4_day 75 = .ok (.iload_n 3, 1) := by decide +kernel
theorem dX4_day_76 : decode cX4_day 76 = .ok (.bipush 10, 2) := by decide +kernel
theorem dX4_day_78 : decode cX4_day 78 = .ok (.if_icmp .lt 13, 3) := by decide +kernel
theorem dX4_day_81 : decode cX4_day 81 = .ok (.aload_n 0, 1) := by decide +kernel
theorem dX4_day_82 : decode cX4_day 82 = .ok (.iload_n 2, 1) := by decide +kernel
theorem dX4_day_83 : decode cX4_day 83 = .ok (.invokestatic 51, 3) := by decide +kernel
theorem dX4_day_86 : decode cX4_day 86 = .ok (.iconst 4, 1) := by decide +kernel
theorem dX4_day_87 : decode cX4_day 87 = .ok (.iadd, 1) := by decide +kernel
theorem dX4_day_88 : decode cX4_day 88 = .ok (.bipush (-8), 2) := by decide +kernel
theorem dX4_day_90 : decode cX4_day 90 = .ok (.iastore, 1) := by decide +kernel
theorem dX4_day_91 : decode cX4_day 91 = .ok (.iinc 2 1, 3) := by decide +kernel
theorem dX4_day_94 : decode cX4_day 94 = .ok (.goto (-85), 3) := by decide +kernel
theorem dX4_day_97 : decode cX4_day 97 = .ok (.iconst 0, 1) := by decide +kernel
theorem dX4_day_98 : decode cX4_day 98 = .ok (.istore_n 2, 1) := by decide +kernel
theorem dX4_day_99 : decode cX4_day 99 = .ok (.iload_n 2, 1) := by decide +kernel
theorem dX4_day_100 : decode cX4_day 100 = .ok (.aload_n 0, 1) := by decide +kernel
theorem dX4_day_101 : decode cX4_day 101 = .ok (.iconst 0, 1) := by decide +kernel
theorem dX4_day_102 : decode cX4_day 102 = .ok (.iaload, 1) := by decide +kernel
theorem dX4_day_103 : decode cX4_day 103 = .ok (.if_icmp .ge 37, 3) := by decide +kernel
theorem dX4_day_106 : decode cX4_day 106 = .ok (.iload_n 2, 1) := by decide +kernel
theorem dX4_day_107 : decode cX4_day 107 = .ok (.aload_n 0, 1) := by decide +kernel
theorem dX4_day_108 : decode cX4_day 108 = .ok (.iconst 3, 1) := by decide +kernel
theorem dX4_day_109 : decode cX4_day 109 = .ok (.iaload, 1) := by decide +kernel
theorem dX4_day_110 : decode cX4_day 110 = .ok (.if_icmp .ne 8, 3) := by decide +kernel
theorem dX4_day_113 : decode cX4_day 113 = .ok (.bipush (-9), 2) := by decide +kernel
theorem dX4_day_115 : decode cX4_day 115 = .ok (.goto 8, 3) := by decide +kernel
theorem dX4_day_118 : decode cX4_day 118 = .ok (.aload_n 0, 1) := by decide +kernel
theorem dX4_day_119 : decode cX4_day 119 = .ok (.iload_n 2, 1) := by decide +kernel
theorem dX4_day_120 : decode cX4_day 120 = .ok (.invokestatic 80, 3) := by decide +kernel
theorem dX4_day_123 : decode cX4_day 123 = .ok (.istore_n 3, 1) := by decide +kernel
theorem dX4_day_124 : decode cX4_day 124 = .ok (.iload_n 3, 1) := by decide +kernel
theorem dX4_day_125 : decode cX4_day 125 = .ok (.ifCond .lt 9, 3) := by decide +kernel
theorem dX4_day_128 : decode cX4_day 128 = .ok (.aload_n 0, 1) := by decide +kernel
theorem dX4_day_129 : decode cX4_day 129 = .ok (.iload_n 2, 1) := by decide +kernel
theorem dX4_day_130 : decode cX4_day 130 = .ok (.iload_n 3, 1) := by decide +kernel
theorem dX4_day_131 : decode cX4_day 131 = .ok (.invokestatic 83, 3) := by decide +kernel
theorem dX4_day_134 : decode cX4_day 134 = .ok (.iinc 2 1, 3) := by decide +kernel
theorem dX4_day_137 : decode cX4_day 137 = .ok (.goto (-38), 3) := by decide +kernel
theorem dX4_day_140 : decode cX4_day 140 = .ok (.return_, 1) := by decide +kernel
set_option maxRecDepth 20000 in
theorem ggX4_daysOn_X4_day : GoodIn wsX4_daysOn wsX4_day := goodIn_r _ [4, 5, 6, 3, 7, 8, 9, 10, 11, 12, 13, 14, 15, 16, 17, 18, 19, 20, 21, 22, 23, 24, 25, 26, 27, 28, 29, 30, 31, 32, 33, 34] (by decide +kernel) (by decide +kernel)
set_option maxRecDepth 20000 in
theorem gX4_daysOn_X4_day : GoodIn wsX4_daysOn (va_wsS RX4 87 yX4_day wsX4_day) := goodIn_app (goodIn_of _ (by decide +kernel)) ggX4_daysOn_X4_day
theorem dX4_daysOn_0 : decode cX4_daysOn 0 = .ok (.iconst 0, 1) := by decide +kernel
theorem dX4_daysOn_1 : decode cX4_daysOn 1 = .ok (.istore_n 2, 1) := by decide +kernel
theorem dX4_daysOn_2 : decode cX4_daysOn 2 = .ok (.iload_n 2, 1) := by decide +kernel
theorem dX4_daysOn_3 : decode cX4_daysOn 3 = .ok (.iload_n 1, 1) := by decide +kernel
theorem dX4_daysOn_4 : decode cX4_daysOn 4 = .ok (.if_icmp .ge 14, 3) := by decide +kernel
theorem dX4_daysOn_7 : decode cX4_daysOn 7 = .ok (.aload_n 0, 1) := by decide +kernel
theorem dX4_daysOn_8 : decode cX4_daysOn 8 = .ok (.iconst 1, 1) := by decide +kernel
theorem dX4_daysOn_9 : decode cX4_daysOn 9 = .ok (.invokestatic 87, 3) := by decide +kernel
theorem dX4_daysOn_12 : decode cX4_daysOn 12 = .ok (.iinc 2 1, 3) := by decide +kernel
theorem dX4_daysOn_15 : decode cX4_daysOn 15 = .ok (.goto (-13), 3) := by decide +kernel
theorem dX4_daysOn_18 : decode cX4_daysOn 18 = .ok (.return_, 1) := by decide +kernel
set_option maxRecDepth 20000 in
theorem ggX4_wholeSet_X4_isWhole : GoodIn wsX4_wholeSet wsX4_isWhole := goodIn_r _ [4, 5, 6, 3, 7] (by decide +kernel) (by decide +kernel)
set_option maxRecDepth 20000 in
theorem gX4_wholeSet_X4_isWhole : GoodIn wsX4_wholeSet (va_wsS RX4 72 yX4_isWhole wsX4_isWhole) := goodIn_app (goodIn_of _ (by decide +kernel)) ggX4_wholeSet_X4_isWhole
theorem dX4_wholeSet_0 : decode cX4_wholeSet 0 = .ok (.iconst 0, 1) := by decide +kernel
theorem dX4_wholeSet_1 : decode cX4_wholeSet 1 = .ok (.istore_n 1, 1) := by decide +kernel
theorem dX4_wholeSet_2 : decode cX4_wholeSet 2 = .ok (.iconst 0, 1) := by decide +kernel
theorem dX4_wholeSet_3 : decode cX4_wholeSet 3 = .ok (.istore_n 2, 1) := by decide +kernel
theorem dX4_wholeSet_4 : decode cX4_wholeSet 4 = .ok (.iload_n 2, 1) := by decide +kernel
theorem dX4_wholeSet_5 : decode cX4_wholeSet 5 = .ok (.aload_n 0, 1) := by decide +kernel
theorem dX4_wholeSet_6 : decode cX4_wholeSet 6 = .ok (.iconst 1, 1) := by decide +kernel
theorem dX4_wholeSet_7 : decode cX4_wholeSet 7 = .ok (.iaload, 1) := by decide +kernel
theorem dX4_wholeSet_8 : decode cX4_wholeSet 8 = .ok (.if_icmp .ge 27, 3) := by decide +kernel
theorem dX4_wholeSet_11 : decode cX4_wholeSet 11 = .ok (.iload_n 1, 1) := by decide +kernel
theorem dX4_wholeSet_12 : decode cX4_wholeSet 12 = .ok (.aload_n 0, 1) := by decide +kernel
theorem dX4_wholeSet_13 : decode cX4_wholeSet 13 = .ok (.iload_n 2, 1) := by decide +kernel
theorem dX4_wholeSet_14 : decode cX4_wholeSet 14 = .ok (.invokestatic 72, 3) := by decide +kernel
theorem dX4_wholeSet_17 : decode cX4_wholeSet 17 = .ok (.ifCond .eq 9, 3) := by decide +kernel
theorem dX4_wholeSet_20 : decode cX4_wholeSet 20 = .ok (.iconst 1, 1) := by decide +kernel
theorem dX4_wholeSet_21 : decode cX4_wholeSet 21 = .ok (.iload_n 2, 1) := by decide +kernel
theorem dX4_wholeSet_22 : decode cX4_wholeSet 22 = .ok (.ishl, 1) := by decide +kernel
theorem dX4_wholeSet_23 : decode cX4_wholeSet 23 = .ok (.goto 4, 3) := by decide +kernel
theorem dX4_wholeSet_26 : decode cX4_wholeSet 26 = .ok (.iconst 0, 1) := by decide +kernel
theorem dX4_wholeSet_27 : decode cX4_wholeSet 27 = .ok (.ior, 1) := by decide +kernel
theorem dX4_wholeSet_28 : decode cX4_wholeSet 28 = .ok (.istore_n 1, 1) := by decide +kernel
theorem dX4_wholeSet_29 : decode cX4_wholeSet 29 = .ok (.iinc 2 1, 3) := by decide +kernel
theorem dX4_wholeSet_32 : decode cX4_wholeSet 32 = .ok (.goto (-28), 3) := by decide +kernel
theorem dX4_wholeSet_35 : decode cX4_wholeSet 35 = .ok (.iload_n 1, 1) := by decide +kernel
theorem dX4_wholeSet_36 : decode cX4_wholeSet 36 = .ok (.ireturn, 1) := by decide +kernel
set_option maxRecDepth 20000 in
theorem ggX4_wholeBehind_X4_daysOn : GoodIn wsX4_wholeBehind wsX4_daysOn := goodIn_r _ [5, 6, 7, 4, 8, 9, 10, 11, 12, 13, 14, 15, 16, 17, 18, 19, 20, 21, 22, 23, 24, 25, 26, 27, 28, 29, 30, 31, 32, 33, 34, 35, 36, 37, 38] (by decide +kernel) (by decide +kernel)
set_option maxRecDepth 20000 in
theorem gX4_wholeBehind_X4_daysOn : GoodIn wsX4_wholeBehind (va_wsS RX4 91 yX4_daysOn wsX4_daysOn) := goodIn_app (goodIn_of _ (by decide +kernel)) ggX4_wholeBehind_X4_daysOn
set_option maxRecDepth 20000 in
theorem ggX4_wholeBehind_X4_wholeSet : GoodIn wsX4_wholeBehind wsX4_wholeSet := goodIn_r _ [41, 9, 10, 4, 11, 12, 13, 14] (by decide +kernel) (by decide +kernel)
set_option maxRecDepth 20000 in
theorem gX4_wholeBehind_X4_wholeSet : GoodIn wsX4_wholeBehind (va_wsS RX4 94 yX4_wholeSet wsX4_wholeSet) := goodIn_app (goodIn_of _ (by decide +kernel)) ggX4_wholeBehind_X4_wholeSet
set_option maxRecDepth 20000 in
theorem ggX4_wholeBehind_X4_bits : GoodIn wsX4_wholeBehind wsX4_bits := goodIn_r _ [44] (by decide +kernel) (by decide +kernel)
set_option maxRecDepth 20000 in
theorem gX4_wholeBehind_X4_bits : GoodIn wsX4_wholeBehind (va_wsS RX4 98 yX4_bits wsX4_bits) := goodIn_app (goodIn_of _ (by decide +kernel)) ggX4_wholeBehind_X4_bits
theorem dX4_wholeBehind_0 : decode cX4_wholeBehind 0 = .ok (.aload_n 0, 1) := by decide +kernel
theorem dX4_wholeBehind_1 : decode cX4_wholeBehind 1 = .ok (.getfield 13, 3) := by decide +kernel
theorem dX4_wholeBehind_4 : decode cX4_wholeBehind 4 = .ok (.iload_n 1, 1) := by decide +kernel
theorem dX4_wholeBehind_5 : decode cX4_wholeBehind 5 = .ok (.invokestatic 91, 3) := by decide +kernel
theorem dX4_wholeBehind_8 : decode cX4_wholeBehind 8 = .ok (.aload_n 0, 1) := by decide +kernel
theorem dX4_wholeBehind_9 : decode cX4_wholeBehind 9 = .ok (.getfield 13, 3) := by decide +kernel
theorem dX4_wholeBehind_12 : decode cX4_wholeBehind 12 = .ok (.invokestatic 94, 3) := by decide +kernel
theorem dX4_wholeBehind_15 : decode cX4_wholeBehind 15 = .ok (.invokestatic 98, 3) := by decide +kernel
theorem dX4_wholeBehind_18 : decode cX4_wholeBehind 18 = .ok (.ireturn, 1) := by decide +kernel
set_option maxRecDepth 20000 in
theorem ggX4_mendedAll_X4_ofP : GoodIn wsX4_mendedAll wsX4_ofP := goodIn_r _ [4] (by decide +kernel) (by decide +kernel)
set_option maxRecDepth 20000 in
theorem gX4_mendedAll_X4_ofP : GoodIn wsX4_mendedAll (va_wsS RX4 58 yX4_ofP wsX4_ofP) := goodIn_app (goodIn_of _ (by decide +kernel)) ggX4_mendedAll_X4_ofP
theorem dX4_mendedAll_0 : decode cX4_mendedAll 0 = .ok (.iconst 0, 1) := by decide +kernel
theorem dX4_mendedAll_1 : decode cX4_mendedAll 1 = .ok (.istore_n 1, 1) := by decide +kernel
theorem dX4_mendedAll_2 : decode cX4_mendedAll 2 = .ok (.iconst 0, 1) := by decide +kernel
theorem dX4_mendedAll_3 : decode cX4_mendedAll 3 = .ok (.istore_n 2, 1) := by decide +kernel
theorem dX4_mendedAll_4 : decode cX4_mendedAll 4 = .ok (.iload_n 2, 1) := by decide +kernel
theorem dX4_mendedAll_5 : decode cX4_mendedAll 5 = .ok (.aload_n 0, 1) := by decide +kernel
theorem dX4_mendedAll_6 : decode cX4_mendedAll 6 = .ok (.iconst 0, 1) := by decide +kernel
theorem dX4_mendedAll_7 : decode cX4_mendedAll 7 = .ok (.iaload, 1) := by decide +kernel
theorem dX4_mendedAll_8 : decode cX4_mendedAll 8 = .ok (.if_icmp .ge 20, 3) := by decide +kernel
theorem dX4_mendedAll_11 : decode cX4_mendedAll 11 = .ok (.iload_n 1, 1) := by decide +kernel
theorem dX4_mendedAll_12 : decode cX4_mendedAll 12 = .ok (.aload_n 0, 1) := by decide +kernel
theorem dX4_mendedAll_13 : decode cX4_mendedAll 13 = .ok (.iload_n 2, 1) := by decide +kernel
theorem dX4_mendedAll_14 : decode cX4_mendedAll 14 = .ok (.invokestatic 58, 3) := by decide +kernel
theorem dX4_mendedAll_17 : decode cX4_mendedAll 17 = .ok (.iconst 1, 1) := by decide +kernel
theorem dX4_mendedAll_18 : decode cX4_mendedAll 18 = .ok (.iadd, 1) := by decide +kernel
theorem dX4_mendedAll_19 : decode cX4_mendedAll 19 = .ok (.iaload, 1) := by decide +kernel
theorem dX4_mendedAll_20 : decode cX4_mendedAll 20 = .ok (.iadd, 1) := by decide +kernel
theorem dX4_mendedAll_21 : decode cX4_mendedAll 21 = .ok (.istore_n 1, 1) := by decide +kernel
theorem dX4_mendedAll_22 : decode cX4_mendedAll 22 = .ok (.iinc 2 1, 3) := by decide +kernel
theorem dX4_mendedAll_25 : decode cX4_mendedAll 25 = .ok (.goto (-21), 3) := by decide +kernel
theorem dX4_mendedAll_28 : decode cX4_mendedAll 28 = .ok (.iload_n 1, 1) := by decide +kernel
theorem dX4_mendedAll_29 : decode cX4_mendedAll 29 = .ok (.ireturn, 1) := by decide +kernel
set_option maxRecDepth 20000 in
theorem ggX4_letter_X4_no : GoodIn wsX4_letter wsX4_no := goodIn_r _ [7, 8, 9, 10, 11, 12, 13, 14, 15, 16, 17, 18, 19, 20, 21, 22, 23, 24] (by decide +kernel) (by decide +kernel)
set_option maxRecDepth 20000 in
theorem gX4_letter_X4_no : GoodIn wsX4_letter (wsV RX4 41 RX4 yX4_no wsX4_no) := goodIn_app (goodIn_of _ (by decide +kernel)) ggX4_letter_X4_no
theorem dX4_letter_0 : decode cX4_letter 0 = .ok (.iload_n 1, 1) := by decide +kernel
theorem dX4_letter_1 : decode cX4_letter 1 = .ok (.ifCond .ge 10, 3) := by decide +kernel
theorem dX4_letter_4 : decode cX4_letter 4 = .ok (.aload_n 0, 1) := by decide +kernel
theorem dX4_letter_5 : decode cX4_letter 5 = .ok (.bipush (-4), 2) := by decide +kernel
theorem dX4_letter_7 : decode cX4_letter 7 = .ok (.invokevirtual 41, 3) := by decide +kernel
theorem dX4_letter_10 : decode cX4_letter 10 = .ok (.ireturn, 1) := by decide +kernel
theorem dX4_letter_11 : decode cX4_letter 11 = .ok (.iload_n 1, 1) := by decide +kernel
theorem dX4_letter_12 : decode cX4_letter 12 = .ok (.sipush 255, 3) := by decide +kernel
theorem dX4_letter_15 : decode cX4_letter 15 = .ok (.if_icmp .gt 12, 3) := by decide +kernel
theorem dX4_letter_18 : decode cX4_letter 18 = .ok (.aload_n 0, 1) := by decide +kernel
theorem dX4_letter_19 : decode cX4_letter 19 = .ok (.getfield 101, 3) := by decide +kernel
theorem dX4_letter_22 : decode cX4_letter 22 = .ok (.bipush 96, 2) := by decide +kernel
theorem dX4_letter_24 : decode cX4_letter 24 = .ok (.if_icmp .ne 10, 3) := by decide +kernel
theorem dX4_letter_27 : decode cX4_letter 27 = .ok (.aload_n 0, 1) := by decide +kernel
theorem dX4_letter_28 : decode cX4_letter 28 = .ok (.bipush (-6), 2) := by decide +kernel
theorem dX4_letter_30 : decode cX4_letter 30 = .ok (.invokevirtual 41, 3) := by decide +kernel
theorem dX4_letter_33 : decode cX4_letter 33 = .ok (.ireturn, 1) := by decide +kernel
theorem dX4_letter_34 : decode cX4_letter 34 = .ok (.aload_n 0, 1) := by decide +kernel
theorem dX4_letter_35 : decode cX4_letter 35 = .ok (.getfield 22, 3) := by decide +kernel
theorem dX4_letter_38 : decode cX4_letter 38 = .ok (.aload_n 0, 1) := by decide +kernel
theorem dX4_letter_39 : decode cX4_letter 39 = .ok (.getfield 101, 3) := by decide +kernel
theorem dX4_letter_42 : decode cX4_letter 42 = .ok (.iload_n 1, 1) := by decide +kernel
theorem dX4_letter_43 : decode cX4_letter 43 = .ok (.iastore, 1) := by decide +kernel
theorem dX4_letter_44 : decode cX4_letter 44 = .ok (.aload_n 0, 1) := by decide +kernel
theorem dX4_letter_45 : decode cX4_letter 45 = .ok (.dup, 1) := by decide +kernel
theorem dX4_letter_46 : decode cX4_letter 46 = .ok (.getfield 101, 3) := by decide +kernel
theorem dX4_letter_49 : decode cX4_letter 49 = .ok (.iconst 1, 1) := by decide +kernel
theorem dX4_letter_50 : decode cX4_letter 50 = .ok (.iadd, 1) := by decide +kernel
theorem dX4_letter_51 : decode cX4_letter 51 = .ok (.putfield 101, 3) := by decide +kernel
theorem dX4_letter_54 : decode cX4_letter 54 = .ok (.aload_n 0, 1) := by decide +kernel
theorem dX4_letter_55 : decode cX4_letter 55 = .ok (.getfield 101, 3) := by decide +kernel
theorem dX4_letter_58 : decode cX4_letter 58 = .ok (.ireturn, 1) := by decide +kernel
theorem dX4_here_0 : decode cX4_here 0 = .ok (.aload_n 0, 1) := by decide +kernel
theorem dX4_here_1 : decode cX4_here 1 = .ok (.getfield 105, 3) := by decide +kernel
theorem dX4_here_4 : decode cX4_here 4 = .ok (.aload_n 0, 1) := by decide +kernel
theorem dX4_here_5 : decode cX4_here 5 = .ok (.getfield 101, 3) := by decide +kernel
theorem dX4_here_8 : decode cX4_here 8 = .ok (.if_icmp .ge 15, 3) := by decide +kernel
theorem dX4_here_11 : decode cX4_here 11 = .ok (.aload_n 0, 1) := by decide +kernel
theorem dX4_here_12 : decode cX4_here 12 = .ok (.getfield 22, 3) := by decide +kernel
theorem dX4_here_15 : decode cX4_here 15 = .ok (.aload_n 0, 1) := by decide +kernel
theorem dX4_here_16 : decode cX4_here 16 = .ok (.getfield 105, 3) := by decide +kernel
theorem dX4_here_19 : decode cX4_here 19 = .ok (.iaload, 1) := by decide +kernel
theorem dX4_here_20 : decode cX4_here 20 = .ok (.goto 4, 3) := by decide +kernel
theorem dX4_here_23 : decode cX4_here 23 = .ok (.iconst (-1), 1) := by decide +kernel
theorem dX4_here_24 : decode cX4_here 24 = .ok (.ireturn, 1) := by decide +kernel
set_option maxRecDepth 20000 in
theorem ggX4_readsNumber_X4_here : GoodIn wsX4_readsNumber wsX4_here := goodIn_r _ [7, 2, 8, 9, 13, 14, 15, 16, 17, 18, 19, 20, 21, 22, 23, 24, 25, 26, 27, 28] (by decide +kernel) (by decide +kernel)
set_option maxRecDepth 20000 in
theorem gX4_readsNumber_X4_here : GoodIn wsX4_readsNumber (wsV RX4 108 RX4 yX4_here wsX4_here) := goodIn_app (goodIn_of _ (by decide +kernel)) ggX4_readsNumber_X4_here
set_option maxRecDepth 20000 in
theorem ggX4_readsNumber_X4_isIn : GoodIn wsX4_readsNumber wsX4_isIn := goodIn_r _ [12] (by decide +kernel) (by decide +kernel)
set_option maxRecDepth 20000 in
theorem gX4_readsNumber_X4_isIn : GoodIn wsX4_readsNumber (va_wsS RX4 47 yX4_isIn wsX4_isIn) := goodIn_app (goodIn_of _ (by decide +kernel)) ggX4_readsNumber_X4_isIn
theorem dX4_readsNumber_0 : decode cX4_readsNumber 0 = .ok (.aload_n 0, 1) := by decide +kernel
theorem dX4_readsNumber_1 : decode cX4_readsNumber 1 = .ok (.getfield 31, 3) := by decide +kernel
theorem dX4_readsNumber_4 : decode cX4_readsNumber 4 = .ok (.iload_n 1, 1) := by decide +kernel
theorem dX4_readsNumber_5 : decode cX4_readsNumber 5 = .ok (.iconst 0, 1) := by decide +kernel
theorem dX4_readsNumber_6 : decode cX4_readsNumber 6 = .ok (.iastore, 1) := by decide +kernel
theorem dX4_readsNumber_7 : decode cX4_readsNumber 7 = .ok (.iconst 0, 1) := by decide +kernel
theorem dX4_readsNumber_8 : decode cX4_readsNumber 8 = .ok (.istore_n 3, 1) := by decide +kernel
theorem dX4_readsNumber_9 : decode cX4_readsNumber 9 = .ok (.iload_n 3, 1) := by decide +kernel
theorem dX4_readsNumber_10 : decode cX4_readsNumber 10 = .ok (.iload_n 2, 1) := by decide +kernel
theorem dX4_readsNumber_11 : decode cX4_readsNumber 11 = .ok (.if_icmp .ge 58, 3) := by decide +kernel
theorem dX4_readsNumber_14 : decode cX4_readsNumber 14 = .ok (.aload_n 0, 1) := by decide +kernel
theorem dX4_readsNumber_15 : decode cX4_readsNumber 15 = .ok (.invokevirtual 108, 3) := by decide +kernel
theorem dX4_readsNumber_18 : decode cX4_readsNumber 18 = .ok (.bipush 48, 2) := by decide +kernel
theorem dX4_readsNumber_20 : decode cX4_readsNumber 20 = .ok (.bipush 57, 2) := by decide +kernel
theorem dX4_readsNumber_22 : decode cX4_readsNumber 22 = .ok (.invokestatic 47, 3) := by decide +kernel
theorem dX4_readsNumber_25 : decode cX4_readsNumber 25 = .ok (.ifCond .ne 5, 3) := by decide +kernel
theorem dX4_readsNumber_28 : decode cX4_readsNumber 28 = .ok (.iconst 0, 1) := by decide +kernel
theorem dX4_readsNumber_29 : decode cX4_readsNumber 29 = .ok (.ireturn, 1) := by decide +kernel
theorem dX4_readsNumber_30 : decode cX4_readsNumber 30 = .ok (.aload_n 0, 1) := by decide +kernel
theorem dX4_readsNumber_31 : decode cX4_readsNumber 31 = .ok (.getfield 31, 3) := by decide +kernel
theorem dX4_readsNumber_34 : decode cX4_readsNumber 34 = .ok (.iload_n 1, 1) := by decide +kernel
theorem dX4_readsNumber_35 : decode cX4_readsNumber 35 = .ok (.bipush 10, 2) := by decide +kernel
theorem dX4_readsNumber_37 : decode cX4_readsNumber 37 = .ok (.aload_n 0, 1) := by decide +kernel
theorem dX4_readsNumber_38 : decode cX4_readsNumber 38 = .ok (.getfield 31, 3) := by decide +kernel
theorem dX4_readsNumber_41 : decode cX4_readsNumber 41 = .ok (.iload_n 1, 1) := by decide +kernel
theorem dX4_readsNumber_42 : decode cX4_readsNumber 42 = .ok (.iaload, 1) := by decide +kernel
theorem dX4_readsNumber_43 : decode cX4_readsNumber 43 = .ok (.imul, 1) := by decide +kernel
theorem dX4_readsNumber_44 : decode cX4_readsNumber 44 = .ok (.aload_n 0, 1) := by decide +kernel
theorem dX4_readsNumber_45 : decode cX4_readsNumber 45 = .ok (.invokevirtual 108, 3) := by decide +kernel
theorem dX4_readsNumber_48 : decode cX4_readsNumber 48 = .ok (.iadd, 1) := by decide +kernel
theorem dX4_readsNumber_49 : decode cX4_readsNumber 49 = .ok (.bipush 48, 2) := by decide +kernel
theorem dX4_readsNumber_51 : decode cX4_readsNumber 51 = .ok (.isub, 1) := by decide +kernel
theorem dX4_readsNumber_52 : decode cX4_readsNumber 52 = .ok (.iastore, 1) := by decide +kernel
theorem dX4_readsNumber_53 : decode cX4_readsNumber 53 = .ok (.aload_n 0, 1) := by decide +kernel
theorem dX4_readsNumber_54 : decode cX4_readsNumber 54 = .ok (.dup, 1) := by decide +kernel
theorem dX4_readsNumber_55 : decode cX4_readsNumber 55 = .ok (.getfield 105, 3) := by decide +kernel
theorem dX4_readsNumber_58 : decode cX4_readsNumber 58 = .ok (.iconst 1, 1) := by decide +kernel
theorem dX4_readsNumber_59 : decode cX4_readsNumber 59 = .ok (.iadd, 1) := by decide +kernel
theorem dX4_readsNumber_60 : decode cX4_readsNumber 60 = .ok (.putfield 105, 3) := by decide +kernel
theorem dX4_readsNumber_63 : decode cX4_readsNumber 63 = .ok (.iinc 3 1, 3) := by decide +kernel
theorem dX4_readsNumber_66 : decode cX4_readsNumber 66 = .ok (.goto (-57), 3) := by decide +kernel
theorem dX4_readsNumber_69 : decode cX4_readsNumber 69 = .ok (.iconst 1, 1) := by decide +kernel
theorem dX4_readsNumber_70 : decode cX4_readsNumber 70 = .ok (.ireturn, 1) := by decide +kernel
theorem dX4_kindBy_0 : decode cX4_kindBy 0 = .ok (.iload_n 0, 1) := by decide +kernel
theorem dX4_kindBy_1 : decode cX4_kindBy 1 = .ok (.lookupswitch 71 #[(99, 61), (103, 63), (107, 67), (108, 69), (116, 59), (119, 65)], 59) := by decide +kernel
theorem dX4_kindBy_60 : decode cX4_kindBy 60 = .ok (.iconst 0, 1) := by decide +kernel
theorem dX4_kindBy_61 : decode cX4_kindBy 61 = .ok (.ireturn, 1) := by decide +kernel
theorem dX4_kindBy_62 : decode cX4_kindBy 62 = .ok (.iconst 1, 1) := by decide +kernel
theorem dX4_kindBy_63 : decode cX4_kindBy 63 = .ok (.ireturn, 1) := by decide +kernel
theorem dX4_kindBy_64 : decode cX4_kindBy 64 = .ok (.iconst 2, 1) := by decide +kernel
theorem dX4_kindBy_65 : decode cX4_kindBy 65 = .ok (.ireturn, 1) := by decide +kernel
theorem dX4_kindBy_66 : decode cX4_kindBy 66 = .ok (.iconst 3, 1) := by decide +kernel
theorem dX4_kindBy_67 : decode cX4_kindBy 67 = .ok (.ireturn, 1) := by decide +kernel
theorem dX4_kindBy_68 : decode cX4_kindBy 68 = .ok (.iconst 4, 1) := by decide +kernel
theorem dX4_kindBy_69 : decode cX4_kindBy 69 = .ok (.ireturn, 1) := by decide +kernel
theorem dX4_kindBy_70 : decode cX4_kindBy 70 = .ok (.iconst 5, 1) := by decide +kernel
theorem dX4_kindBy_71 : decode cX4_kindBy 71 = .ok (.ireturn, 1) := by decide +kernel
theorem dX4_kindBy_72 : decode cX4_kindBy 72 = .ok (.bipush (-9), 2) := by decide +kernel
theorem dX4_kindBy_74 : decode cX4_kindBy 74 = .ok (.ireturn, 1) := by decide +kernel
set_option maxRecDepth 20000 in
theorem ggX4_readsKind_X4_here : GoodIn wsX4_readsKind wsX4_here := goodIn_r _ [7, 2, 8, 9, 13, 14, 15, 16, 17, 18, 19, 20, 21, 22, 23, 24, 25, 26, 27, 28] (by decide +kernel) (by decide +kernel)
set_option maxRecDepth 20000 in
theorem gX4_readsKind_X4_here : GoodIn wsX4_readsKind (wsV RX4 108 RX4 yX4_here wsX4_here) := goodIn_app (goodIn_of _ (by decide +kernel)) ggX4_readsKind_X4_here
set_option maxRecDepth 20000 in
theorem ggX4_readsKind_X4_kindBy : GoodIn wsX4_readsKind wsX4_kindBy := goodIn_r _ [12] (by decide +kernel) (by decide +kernel)
set_option maxRecDepth 20000 in
theorem gX4_readsKind_X4_kindBy : GoodIn wsX4_readsKind (va_wsS RX4 112 yX4_kindBy wsX4_kindBy) := goodIn_app (goodIn_of _ (by decide +kernel)) ggX4_readsKind_X4_kindBy
theorem dX4_readsKind_0 : decode cX4_readsKind 0 = .ok (.aload_n 0, 1) := by decide +kernel
theorem dX4_readsKind_1 : decode cX4_readsKind 1 = .ok (.getfield 31, 3) := by decide +kernel
theorem dX4_readsKind_4 : decode cX4_readsKind 4 = .ok (.iconst 0, 1) := by decide +kernel
theorem dX4_readsKind_5 : decode cX4_readsKind 5 = .ok (.aload_n 0, 1) := by decide +kernel
theorem dX4_readsKind_6 : decode cX4_readsKind 6 = .ok (.invokevirtual 108, 3) := by decide +kernel
theorem dX4_readsKind_9 : decode cX4_readsKind 9 = .ok (.invokestatic 112, 3) := by decide +kernel
theorem dX4_readsKind_12 : decode cX4_readsKind 12 = .ok (.iastore, 1) := by decide +kernel
theorem dX4_readsKind_13 : decode cX4_readsKind 13 = .ok (.aload_n 0, 1) := by decide +kernel
theorem dX4_readsKind_14 : decode cX4_readsKind 14 = .ok (.dup, 1) := by decide +kernel
theorem dX4_readsKind_15 : decode cX4_readsKind 15 = .ok (.getfield 105, 3) := by decide +kernel
theorem dX4_readsKind_18 : decode cX4_readsKind 18 = .ok (.aload_n 0, 1) := by decide +kernel
theorem dX4_readsKind_19 : decode cX4_readsKind 19 = .ok (.getfield 31, 3) := by decide +kernel
theorem dX4_readsKind_22 : decode cX4_readsKind 22 = .ok (.iconst 0, 1) := by decide +kernel
theorem dX4_readsKind_23 : decode cX4_readsKind 23 = .ok (.iaload, 1) := by decide +kernel
theorem dX4_readsKind_24 : decode cX4_readsKind 24 = .ok (.ifCond .ge 7, 3) := by decide +kernel
theorem dX4_readsKind_27 : decode cX4_readsKind 27 = .ok (.iconst 0, 1) := by decide +kernel
theorem dX4_readsKind_28 : decode cX4_readsKind 28 = .ok (.goto 4, 3) := by decide +kernel
theorem dX4_readsKind_31 : decode cX4_readsKind 31 = .ok (.iconst 1, 1) := by decide +kernel
theorem dX4_readsKind_32 : decode cX4_readsKind 32 = .ok (.iadd, 1) := by decide +kernel
theorem dX4_readsKind_33 : decode cX4_readsKind 33 = .ok (.putfield 105, 3) := by decide +kernel
theorem dX4_readsKind_36 : decode cX4_readsKind 36 = .ok (.aload_n 0, 1) := by decide +kernel
theorem dX4_readsKind_37 : decode cX4_readsKind 37 = .ok (.getfield 31, 3) := by decide +kernel
theorem dX4_readsKind_40 : decode cX4_readsKind 40 = .ok (.iconst 0, 1) := by decide +kernel
theorem dX4_readsKind_41 : decode cX4_readsKind 41 = .ok (.iaload, 1) := by decide +kernel
theorem dX4_readsKind_42 : decode cX4_readsKind 42 = .ok (.ifCond .lt 7, 3) := by decide +kernel
theorem dX4_readsKind_45 : decode cX4_readsKind 45 = .ok (.iconst 1, 1) := by decide +kernel
theorem dX4_readsKind_46 : decode cX4_readsKind 46 = .ok (.goto 4, 3) := by decide +kernel
theorem dX4_readsKind_49 : decode cX4_readsKind 49 = .ok (.iconst 0, 1) := by decide +kernel
theorem dX4_readsKind_50 : decode cX4_readsKind 50 = .ok (.ireturn, 1) := by decide +kernel
set_option maxRecDepth 20000 in
theorem ggX4_readsStatement_X4_here : GoodIn wsX4_readsStatement wsX4_here := goodIn_r _ [6, 1, 7, 8, 24, 25, 26, 27, 28, 29, 30, 31, 32, 33, 34, 35, 36, 37, 38, 39] (by decide +kernel) (by decide +kernel)
set_option maxRecDepth 20000 in
theorem gX4_readsStatement_X4_here : GoodIn wsX4_readsStatement (wsV RX4 108 RX4 yX4_here wsX4_here) := goodIn_app (goodIn_of _ (by decide +kernel)) ggX4_readsStatement_X4_here
set_option maxRecDepth 20000 in
theorem ggX4_readsStatement_X4_readsNumber : GoodIn wsX4_readsStatement wsX4_readsNumber := goodIn_r _ [12, 13, 1, 2, 3, 4, 5, 6, 7, 8, 14, 15, 16, 24, 25, 26, 27, 28, 29, 30, 31, 32, 33, 34, 35, 36, 37, 38, 39] (by decide +kernel) (by decide +kernel)
set_option maxRecDepth 20000 in
theorem gX4_readsStatement_X4_readsNumber : GoodIn wsX4_readsStatement (wsV RX4 115 RX4 yX4_readsNumber wsX4_readsNumber) := goodIn_app (goodIn_of _ (by decide +kernel)) ggX4_readsStatement_X4_readsNumber
set_option maxRecDepth 20000 in
theorem ggX4_readsStatement_X4_readsKind : GoodIn wsX4_readsStatement wsX4_readsKind := goodIn_r _ [20, 13, 1, 2, 3, 4, 5, 6, 7, 8, 21, 22, 23, 24, 25, 26, 27, 28, 29, 30, 31, 32, 33, 34, 35, 36, 37, 38, 39] (by decide +kernel) (by decide +kernel)
set_option maxRecDepth 20000 in
theorem gX4_readsStatement_X4_readsKind : GoodIn wsX4_readsStatement (wsV RX4 119 RX4 yX4_readsKind wsX4_readsKind) := goodIn_app (goodIn_of _ (by decide +kernel)) ggX4_readsStatement_X4_readsKind
theorem dX4_readsStatement_0 : decode cX4_readsStatement 0 = .ok (.aload_n 0, 1) := by decide +kernel
theorem dX4_readsStatement_1 : decode cX4_readsStatement 1 = .ok (.invokevirtual 108, 3) := by decide +kernel
theorem dX4_readsStatement_4 : decode cX4_readsStatement 4 = .ok (.istore_n 1, 1) := by decide +kernel
theorem dX4_readsStatement_5 : decode cX4_readsStatement 5 = .ok (.aload_n 0, 1) := by decide +kernel
theorem dX4_readsStatement_6 : decode cX4_readsStatement 6 = .ok (.dup, 1) := by decide +kernel
theorem dX4_readsStatement_7 : decode cX4_readsStatement 7 = .ok (.getfield 105, 3) := by decide +kernel
theorem dX4_readsStatement_10 : decode cX4_readsStatement 10 = .ok (.iconst 1, 1) := by decide +kernel
theorem dX4_readsStatement_11 : decode cX4_readsStatement 11 = .ok (.iadd, 1) := by decide +kernel
theorem dX4_readsStatement_12 : decode cX4_readsStatement 12 = .ok (.putfield 105, 3) := by decide +kernel
theorem dX4_readsStatement_15 : decode cX4_readsStatement 15 = .ok (.iload_n 1, 1) := by decide +kernel
theorem dX4_readsStatement_16 : decode cX4_readsStatement 16 = .ok (.tableswitch 185 98 119 #[148, 185, 175, 185, 185, 185, 185, 185, 185, 185, 185, 185, 104, 185, 104, 185, 185, 148, 114, 185, 185, 148], 104) := by decide +kernel
theorem dX4_readsStatement_120 : decode cX4_readsStatement 120 = .ok (.aload_n 0, 1) := by decide +kernel
theorem dX4_readsStatement_121 : decode cX4_readsStatement 121 = .ok (.iconst 0, 1) := by decide +kernel
theorem dX4_readsStatement_122 : decode cX4_readsStatement 122 = .ok (.iconst 1, 1) := by decide +kernel
theorem dX4_readsStatement_123 : decode cX4_readsStatement 123 = .ok (.invokevirtual 115, 3) := by decide +kernel
theorem dX4_readsStatement_126 : decode cX4_readsStatement 126 = .ok (.istore_n 2, 1) := by decide +kernel
theorem dX4_readsStatement_127 : decode cX4_readsStatement 127 = .ok (.goto 86, 3) := by decide +kernel
theorem dX4_readsStatement_130 : decode cX4_readsStatement 130 = .ok (.aload_n 0, 1) := by decide +kernel
theorem dX4_readsStatement_131 : decode cX4_readsStatement 131 = .ok (.invokevirtual 119, 3) := by decide +kernel
theorem dX4_readsStatement_134 : decode cX4_readsStatement 134 = .ok (.ifCond .eq 25, 3) := by decide +kernel
theorem dX4_readsStatement_137 : decode cX4_readsStatement 137 = .ok (.aload_n 0, 1) := by decide +kernel
theorem dX4_readsStatement_138 : decode cX4_readsStatement 138 = .ok (.iconst 1, 1) := by decide +kernel
theorem dX4_readsStatement_139 : decode cX4_readsStatement 139 = .ok (.iconst 1, 1) := by decide +kernel
theorem dX4_readsStatement_140 : decode cX4_readsStatement 140 = .ok (.invokevirtual 115, 3) := by decide +kernel
theorem dX4_readsStatement_143 : decode cX4_readsStatement 143 = .ok (.ifCond .eq 16, 3) := by decide +kernel
theorem dX4_readsStatement_146 : decode cX4_readsStatement 146 = .ok (.aload_n 0, 1) := by decide +kernel
theorem dX4_readsStatement_147 : decode cX4_readsStatement 147 = .ok (.iconst 2, 1) := by decide +kernel
theorem dX4_readsStatement_148 : decode cX4_readsStatement 148 = .ok (.iconst 1, 1) := by decide +kernel
theorem dX4_readsStatement_149 : decode cX4_readsStatement 149 = .ok (.invokevirtual 115, 3) := by decide +kernel
theorem dX4_readsStatement_152 : decode cX4_readsStatement 152 = .ok (.ifCond .eq 7, 3) := by decide +kernel
theorem dX4_readsStatement_155 : decode cX4_readsStatement 155 = .ok (.iconst 1, 1) := by decide +kernel
theorem dX4_readsStatement_156 : decode cX4_readsStatement 156 = .ok (.goto 4, 3) := by decide +kernel
theorem dX4_readsStatement_159 : decode cX4_readsStatement 159 = .ok (.iconst 0, 1) := by decide +kernel
theorem dX4_readsStatement_160 : decode cX4_readsStatement 160 = .ok (.istore_n 2, 1) := by decide +kernel
theorem dX4_readsStatement_161 : decode cX4_readsStatement 161 = .ok (.goto 52, 3) := by decide +kernel
theorem dX4_readsStatement_164 : decode cX4_readsStatement 164 = .ok (.aload_n 0, 1) := by decide +kernel
theorem dX4_readsStatement_165 : decode cX4_readsStatement 165 = .ok (.iconst 0, 1) := by decide +kernel
theorem dX4_readsStatement_166 : decode cX4_readsStatement 166 = .ok (.iconst 1, 1) := by decide +kernel
theorem dX4_readsStatement_167 : decode cX4_readsStatement 167 = .ok (.invokevirtual 115, 3) := by decide +kernel
theorem dX4_readsStatement_170 : decode cX4_readsStatement 170 = .ok (.ifCond .eq 16, 3) := by decide +kernel
theorem dX4_readsStatement_173 : decode cX4_readsStatement 173 = .ok (.aload_n 0, 1) := by decide +kernel
theorem dX4_readsStatement_174 : decode cX4_readsStatement 174 = .ok (.iconst 1, 1) := by decide +kernel
theorem dX4_readsStatement_175 : decode cX4_readsStatement 175 = .ok (.iconst 1, 1) := by decide +kernel
theorem dX4_readsStatement_176 : decode cX4_readsStatement 176 = .ok (.invokevirtual 115, 3) := by decide +kernel
theorem dX4_readsStatement_179 : decode cX4_readsStatement 179 = .ok (.ifCond .eq 7, 3) := by decide +kernel
theorem dX4_readsStatement_182 : decode cX4_readsStatement 182 = .ok (.iconst 1, 1) := by decide +kernel
theorem dX4_readsStatement_183 : decode cX4_readsStatement 183 = .ok (.goto 4, 3) := by decide +kernel
theorem dX4_readsStatement_186 : decode cX4_readsStatement 186 = .ok (.iconst 0, 1) := by decide +kernel
theorem dX4_readsStatement_187 : decode cX4_readsStatement 187 = .ok (.istore_n 2, 1) := by decide +kernel
theorem dX4_readsStatement_188 : decode cX4_readsStatement 188 = .ok (.goto 25, 3) := by decide +kernel
theorem dX4_readsStatement_191 : decode cX4_readsStatement 191 = .ok (.aload_n 0, 1) := by decide +kernel
theorem dX4_readsStatement_192 : decode cX4_readsStatement 192 = .ok (.iconst 0, 1) := by decide +kernel
theorem dX4_readsStatement_193 : decode cX4_readsStatement 193 = .ok (.iconst 2, 1) := by decide +kernel
theorem dX4_readsStatement_194 : decode cX4_readsStatement 194 = .ok (.invokevirtual 115, 3) := by decide +kernel
theorem dX4_readsStatement_197 : decode cX4_readsStatement 197 = .ok (.istore_n 2, 1) := by decide +kernel
theorem dX4_readsStatement_198 : decode cX4_readsStatement 198 = .ok (.goto 15, 3) := by decide +kernel
theorem dX4_readsStatement_201 : decode cX4_readsStatement 201 = .ok (.aload_n 0, 1) := by decide +kernel
theorem dX4_readsStatement_202 : decode cX4_readsStatement 202 = .ok (.dup, 1) := by decide +kernel
theorem dX4_readsStatement_203 : decode cX4_readsStatement 203 = .ok (.getfield 105, 3) := by decide +kernel
theorem dX4_readsStatement_206 : decode cX4_readsStatement 206 = .ok (.iconst 1, 1) := by decide +kernel
theorem dX4_readsStatement_207 : decode cX4_readsStatement 207 = .ok (.isub, 1) := by decide +kernel
theorem dX4_readsStatement_208 : decode cX4_readsStatement 208 = .ok (.putfield 105, 3) := by decide +kernel
theorem dX4_readsStatement_211 : decode cX4_readsStatement 211 = .ok (.iconst 0, 1) := by decide +kernel
theorem dX4_readsStatement_212 : decode cX4_readsStatement 212 = .ok (.ireturn, 1) := by decide +kernel
theorem dX4_readsStatement_213 : decode cX4_readsStatement 213 = .ok (.iload_n 2, 1) := by decide +kernel
theorem dX4_readsStatement_214 : decode cX4_readsStatement 214 = .ok (.ifCond .eq 12, 3) := by decide +kernel
theorem dX4_readsStatement_217 : decode cX4_readsStatement 217 = .ok (.aload_n 0, 1) := by decide +kernel
theorem dX4_readsStatement_218 : decode cX4_readsStatement 218 = .ok (.invokevirtual 108, 3) := by decide +kernel
theorem dX4_readsStatement_221 : decode cX4_readsStatement 221 = .ok (.bipush 59, 2) := by decide +kernel
theorem dX4_readsStatement_223 : decode cX4_readsStatement 223 = .ok (.if_icmp .eq 5, 3) := by decide +kernel
theorem dX4_readsStatement_226 : decode cX4_readsStatement 226 = .ok (.iconst 0, 1) := by decide +kernel
theorem dX4_readsStatement_227 : decode cX4_readsStatement 227 = .ok (.ireturn, 1) := by decide +kernel
theorem dX4_readsStatement_228 : decode cX4_readsStatement 228 = .ok (.aload_n 0, 1) := by decide +kernel
theorem dX4_readsStatement_229 : decode cX4_readsStatement 229 = .ok (.dup, 1) := by decide +kernel
theorem dX4_readsStatement_230 : decode cX4_readsStatement 230 = .ok (.getfield 105, 3) := by decide +kernel
theorem dX4_readsStatement_233 : decode cX4_readsStatement 233 = .ok (.iconst 1, 1) := by decide +kernel
theorem dX4_readsStatement_234 : decode cX4_readsStatement 234 = .ok (.iadd, 1) := by decide +kernel
theorem dX4_readsStatement_235 : decode cX4_readsStatement 235 = .ok (.putfield 105, 3) := by decide +kernel
theorem dX4_readsStatement_238 : decode cX4_readsStatement 238 = .ok (.iconst 1, 1) := by decide +kernel
theorem dX4_readsStatement_239 : decode cX4_readsStatement 239 = .ok (.ireturn, 1) := by decide +kernel
set_option maxRecDepth 20000 in
theorem ggX4_addsPerson_X4_ofP : GoodIn wsX4_addsPerson wsX4_ofP := goodIn_r _ [5] (by decide +kernel) (by decide +kernel)
set_option maxRecDepth 20000 in
theorem gX4_addsPerson_X4_ofP : GoodIn wsX4_addsPerson (va_wsS RX4 58 yX4_ofP wsX4_ofP) := goodIn_app (goodIn_of _ (by decide +kernel)) ggX4_addsPerson_X4_ofP
theorem dX4_addsPerson_0 : decode cX4_addsPerson 0 = .ok (.aload_n 0, 1) := by decide +kernel
theorem dX4_addsPerson_1 : decode cX4_addsPerson 1 = .ok (.getfield 9, 3) := by decide +kernel
theorem dX4_addsPerson_4 : decode cX4_addsPerson 4 = .ok (.iconst 0, 1) := by decide +kernel
theorem dX4_addsPerson_5 : decode cX4_addsPerson 5 = .ok (.iaload, 1) := by decide +kernel
theorem dX4_addsPerson_6 : decode cX4_addsPerson 6 = .ok (.bipush 6, 2) := by decide +kernel
theorem dX4_addsPerson_8 : decode cX4_addsPerson 8 = .ok (.if_icmp .ne 5, 3) := by decide +kernel
theorem dX4_addsPerson_11 : decode cX4_addsPerson 11 = .ok (.iconst 0, 1) := by decide +kernel
theorem dX4_addsPerson_12 : decode cX4_addsPerson 12 = .ok (.ireturn, 1) := by decide +kernel
theorem dX4_addsPerson_13 : decode cX4_addsPerson 13 = .ok (.aload_n 0, 1) := by decide +kernel
theorem dX4_addsPerson_14 : decode cX4_addsPerson 14 = .ok (.getfield 9, 3) := by decide +kernel
theorem dX4_addsPerson_17 : decode cX4_addsPerson 17 = .ok (.aload_n 0, 1) := by decide +kernel
theorem dX4_addsPerson_18 : decode cX4_addsPerson 18 = .ok (.getfield 9, 3) := by decide +kernel
theorem dX4_addsPerson_21 : decode cX4_addsPerson 21 = .ok (.iconst 0, 1) := by decide +kernel
theorem dX4_addsPerson_22 : decode cX4_addsPerson 22 = .ok (.iaload, 1) := by decide +kernel
theorem dX4_addsPerson_23 : decode cX4_addsPerson 23 = .ok (.invokestatic 58, 3) := by decide +kernel
theorem dX4_addsPerson_26 : decode cX4_addsPerson 26 = .ok (.iconst 0, 1) := by decide +kernel
theorem dX4_addsPerson_27 : decode cX4_addsPerson 27 = .ok (.iadd, 1) := by decide +kernel
theorem dX4_addsPerson_28 : decode cX4_addsPerson 28 = .ok (.iload_n 1, 1) := by decide +kernel
theorem dX4_addsPerson_29 : decode cX4_addsPerson 29 = .ok (.iastore, 1) := by decide +kernel
theorem dX4_addsPerson_30 : decode cX4_addsPerson 30 = .ok (.aload_n 0, 1) := by decide +kernel
theorem dX4_addsPerson_31 : decode cX4_addsPerson 31 = .ok (.getfield 9, 3) := by decide +kernel
theorem dX4_addsPerson_34 : decode cX4_addsPerson 34 = .ok (.aload_n 0, 1) := by decide +kernel
theorem dX4_addsPerson_35 : decode cX4_addsPerson 35 = .ok (.getfield 9, 3) := by decide +kernel
theorem dX4_addsPerson_38 : decode cX4_addsPerson 38 = .ok (.iconst 0, 1) := by decide +kernel
theorem dX4_addsPerson_39 : decode cX4_addsPerson 39 = .ok (.iaload, 1) := by decide +kernel
theorem dX4_addsPerson_40 : decode cX4_addsPerson 40 = .ok (.invokestatic 58, 3) := by decide +kernel
theorem dX4_addsPerson_43 : decode cX4_addsPerson 43 = .ok (.iconst 1, 1) := by decide +kernel
theorem dX4_addsPerson_44 : decode cX4_addsPerson 44 = .ok (.iadd, 1) := by decide +kernel
theorem dX4_addsPerson_45 : decode cX4_addsPerson 45 = .ok (.iconst 0, 1) := by decide +kernel
theorem dX4_addsPerson_46 : decode cX4_addsPerson 46 = .ok (.iastore, 1) := by decide +kernel
theorem dX4_addsPerson_47 : decode cX4_addsPerson 47 = .ok (.aload_n 0, 1) := by decide +kernel
theorem dX4_addsPerson_48 : decode cX4_addsPerson 48 = .ok (.getfield 9, 3) := by decide +kernel
theorem dX4_addsPerson_51 : decode cX4_addsPerson 51 = .ok (.iconst 0, 1) := by decide +kernel
theorem dX4_addsPerson_52 : decode cX4_addsPerson 52 = .ok (.dup2, 1) := by decide +kernel
theorem dX4_addsPerson_53 : decode cX4_addsPerson 53 = .ok (.iaload, 1) := by decide +kernel
theorem dX4_addsPerson_54 : decode cX4_addsPerson 54 = .ok (.iconst 1, 1) := by decide +kernel
theorem dX4_addsPerson_55 : decode cX4_addsPerson 55 = .ok (.iadd, 1) := by decide +kernel
theorem dX4_addsPerson_56 : decode cX4_addsPerson 56 = .ok (.iastore, 1) := by decide +kernel
theorem dX4_addsPerson_57 : decode cX4_addsPerson 57 = .ok (.iconst 1, 1) := by decide +kernel
theorem dX4_addsPerson_58 : decode cX4_addsPerson 58 = .ok (.ireturn, 1) := by decide +kernel
set_option maxRecDepth 20000 in
theorem ggX4_addsThing_X4_isPerson : GoodIn wsX4_addsThing wsX4_isPerson := goodIn_r _ [6, 1, 7, 8, 5, 9, 13, 14, 15, 16, 17, 18, 19, 20, 21, 22, 23, 24, 25, 26, 27, 28] (by decide +kernel) (by decide +kernel)
set_option maxRecDepth 20000 in
theorem gX4_addsThing_X4_isPerson : GoodIn wsX4_addsThing (wsV RX4 123 RX4 yX4_isPerson wsX4_isPerson) := goodIn_app (goodIn_of _ (by decide +kernel)) ggX4_addsThing_X4_isPerson
set_option maxRecDepth 20000 in
theorem ggX4_addsThing_X4_ofT : GoodIn wsX4_addsThing wsX4_ofT := goodIn_r _ [12] (by decide +kernel) (by decide +kernel)
set_option maxRecDepth 20000 in
theorem gX4_addsThing_X4_ofT : GoodIn wsX4_addsThing (va_wsS RX4 51 yX4_ofT wsX4_ofT) := goodIn_app (goodIn_of _ (by decide +kernel)) ggX4_addsThing_X4_ofT
theorem dX4_addsThing_0 : decode cX4_addsThing 0 = .ok (.aload_n 0, 1) := by decide +kernel
theorem dX4_addsThing_1 : decode cX4_addsThing 1 = .ok (.iload_n 3, 1) := by decide +kernel
theorem dX4_addsThing_2 : decode cX4_addsThing 2 = .ok (.invokevirtual 123, 3) := by decide +kernel
theorem dX4_addsThing_5 : decode cX4_addsThing 5 = .ok (.ifCond .eq 14, 3) := by decide +kernel
theorem dX4_addsThing_8 : decode cX4_addsThing 8 = .ok (.aload_n 0, 1) := by decide +kernel
theorem dX4_addsThing_9 : decode cX4_addsThing 9 = .ok (.getfield 9, 3) := by decide +kernel
theorem dX4_addsThing_12 : decode cX4_addsThing 12 = .ok (.iconst 1, 1) := by decide +kernel
theorem dX4_addsThing_13 : decode cX4_addsThing 13 = .ok (.iaload, 1) := by decide +kernel
theorem dX4_addsThing_14 : decode cX4_addsThing 14 = .ok (.bipush 9, 2) := by decide +kernel
theorem dX4_addsThing_16 : decode cX4_addsThing 16 = .ok (.if_icmp .ne 5, 3) := by decide +kernel
theorem dX4_addsThing_19 : decode cX4_addsThing 19 = .ok (.iconst 0, 1) := by decide +kernel
theorem dX4_addsThing_20 : decode cX4_addsThing 20 = .ok (.ireturn, 1) := by decide +kernel
theorem dX4_addsThing_21 : decode cX4_addsThing 21 = .ok (.aload_n 0, 1) := by decide +kernel
theorem dX4_addsThing_22 : decode cX4_addsThing 22 = .ok (.getfield 9, 3) := by decide +kernel
theorem dX4_addsThing_25 : decode cX4_addsThing 25 = .ok (.iconst 1, 1) := by decide +kernel
theorem dX4_addsThing_26 : decode cX4_addsThing 26 = .ok (.iaload, 1) := by decide +kernel
theorem dX4_addsThing_27 : decode cX4_addsThing 27 = .ok (.invokestatic 51, 3) := by decide +kernel
theorem dX4_addsThing_30 : decode cX4_addsThing 30 = .ok (.istore 4, 2) := by decide +kernel
theorem dX4_addsThing_32 : decode cX4_addsThing 32 = .ok (.aload_n 0, 1) := by decide +kernel
theorem dX4_addsThing_33 : decode cX4_addsThing 33 = .ok (.getfield 9, 3) := by decide +kernel
theorem dX4_addsThing_36 : decode cX4_addsThing 36 = .ok (.iload 4, 2) := by decide +kernel
theorem dX4_addsThing_38 : decode cX4_addsThing 38 = .ok (.iconst 0, 1) := by decide +kernel
theorem dX4_addsThing_39 : decode cX4_addsThing 39 = .ok (.iadd, 1) := by decide +kernel
theorem dX4_addsThing_40 : decode cX4_addsThing 40 = .ok (.iload_n 1, 1) := by decide +kernel
theorem dX4_addsThing_41 : decode cX4_addsThing 41 = .ok (.iastore, 1) := by decide +kernel
theorem dX4_addsThing_42 : decode cX4_addsThing 42 = .ok (.aload_n 0, 1) := by decide +kernel
theorem dX4_addsThing_43 : decode cX4_addsThing 43 = .ok (.getfield 9, 3) := by decide +kernel
theorem dX4_addsThing_46 : decode cX4_addsThing 46 = .ok (.iload 4, 2) := by decide +kernel
theorem dX4_addsThing_48 : decode cX4_addsThing 48 = .ok (.iconst 1, 1) := by decide +kernel
theorem dX4_addsThing_49 : decode cX4_addsThing 49 = .ok (.iadd, 1) := by decide +kernel
theorem dX4_addsThing_50 : decode cX4_addsThing 50 = .ok (.iload_n 2, 1) := by decide +kernel
theorem dX4_addsThing_51 : decode cX4_addsThing 51 = .ok (.iastore, 1) := by decide +kernel
theorem dX4_addsThing_52 : decode cX4_addsThing 52 = .ok (.aload_n 0, 1) := by decide +kernel
theorem dX4_addsThing_53 : decode cX4_addsThing 53 = .ok (.getfield 9, 3) := by decide +kernel
theorem dX4_addsThing_56 : decode cX4_addsThing 56 = .ok (.iload 4, 2) := by decide +kernel
theorem dX4_addsThing_58 : decode cX4_addsThing 58 = .ok (.iconst 2, 1) := by decide +kernel
theorem dX4_addsThing_59 : decode cX4_addsThing 59 = .ok (.iadd, 1) := by decide +kernel
theorem dX4_addsThing_60 : decode cX4_addsThing 60 = .ok (.iload_n 3, 1) := by decide +kernel
theorem dX4_addsThing_61 : decode cX4_addsThing 61 = .ok (.iastore, 1) := by decide +kernel
theorem dX4_addsThing_62 : decode cX4_addsThing 62 = .ok (.aload_n 0, 1) := by decide +kernel
theorem dX4_addsThing_63 : decode cX4_addsThing 63 = .ok (.getfield 9, 3) := by decide +kernel
theorem dX4_addsThing_66 : decode cX4_addsThing 66 = .ok (.iload 4, 2) := by decide +kernel
theorem dX4_addsThing_68 : decode cX4_addsThing 68 = .ok (.iconst 3, 1) := by decide +kernel
theorem dX4_addsThing_69 : decode cX4_addsThing 69 = .ok (.iadd, 1) := by decide +kernel
theorem dX4_addsThing_70 : decode cX4_addsThing 70 = .ok (.iconst 0, 1) := by decide +kernel
theorem dX4_addsThing_71 : decode cX4_addsThing 71 = .ok (.iastore, 1) := by decide +kernel
theorem dX4_addsThing_72 : decode cX4_addsThing 72 = .ok (.aload_n 0, 1) := by decide +kernel
theorem dX4_addsThing_73 : decode cX4_addsThing 73 = .ok (.getfield 9, 3) := by decide +kernel
theorem dX4_addsThing_76 : decode cX4_addsThing 76 = .ok (.iload 4, 2) := by decide +kernel
theorem dX4_addsThing_78 : decode cX4_addsThing 78 = .ok (.iconst 4, 1) := by decide +kernel
theorem dX4_addsThing_79 : decode cX4_addsThing 79 = .ok (.iadd, 1) := by decide +kernel
theorem dX4_addsThing_80 : decode cX4_addsThing 80 = .ok (.bipush (-9), 2) := by decide +kernel
theorem dX4_addsThing_82 : decode cX4_addsThing 82 = .ok (.iastore, 1) := by decide +kernel
theorem dX4_addsThing_83 : decode cX4_addsThing 83 = .ok (.aload_n 0, 1) := by decide +kernel
theorem dX4_addsThing_84 : decode cX4_addsThing 84 = .ok (.getfield 9, 3) := by decide +kernel
theorem dX4_addsThing_87 : decode cX4_addsThing 87 = .ok (.iconst 1, 1) := by decide +kernel
theorem dX4_addsThing_88 : decode cX4_addsThing 88 = .ok (.dup2, 1) := by decide +kernel
theorem dX4_addsThing_89 : decode cX4_addsThing 89 = .ok (.iaload, 1) := by decide +kernel
theorem dX4_addsThing_90 : decode cX4_addsThing 90 = .ok (.iconst 1, 1) := by decide +kernel
theorem dX4_addsThing_91 : decode cX4_addsThing 91 = .ok (.iadd, 1) := by decide +kernel
theorem dX4_addsThing_92 : decode cX4_addsThing 92 = .ok (.iastore, 1) := by decide +kernel
theorem dX4_addsThing_93 : decode cX4_addsThing 93 = .ok (.iconst 1, 1) := by decide +kernel
theorem dX4_addsThing_94 : decode cX4_addsThing 94 = .ok (.ireturn, 1) := by decide +kernel
set_option maxRecDepth 20000 in
theorem ggX4_isDone_X4_addsPerson : GoodIn wsX4_isDone wsX4_addsPerson := goodIn_r _ [7, 2, 8, 9, 6, 10, 59, 60, 61, 62, 63, 64, 65, 66, 67, 68, 69, 70, 71, 72, 73, 74] (by decide +kernel) (by decide +kernel)
set_option maxRecDepth 20000 in
theorem gX4_isDone_X4_addsPerson : GoodIn wsX4_isDone (wsV RX4 127 RX4 yX4_addsPerson wsX4_addsPerson) := goodIn_app (goodIn_of _ (by decide +kernel)) ggX4_isDone_X4_addsPerson
set_option maxRecDepth 20000 in
theorem ggX4_isDone_X4_addsThing : GoodIn wsX4_isDone wsX4_addsThing := goodIn_r _ [14, 2, 15, 16, 17, 6, 18, 19, 20, 21, 22, 23, 24, 59, 60, 61, 62, 63, 64, 65, 66, 67, 68, 69, 70, 71, 72, 73, 74] (by decide +kernel) (by decide +kernel)
set_option maxRecDepth 20000 in
theorem gX4_isDone_X4_addsThing : GoodIn wsX4_isDone (wsV RX4 130 RX4 yX4_addsThing wsX4_addsThing) := goodIn_app (goodIn_of _ (by decide +kernel)) ggX4_isDone_X4_addsThing
set_option maxRecDepth 20000 in
theorem ggX4_isDone_X4_isPerson : GoodIn wsX4_isDone wsX4_isPerson := goodIn_r _ [18, 2, 19, 20, 6, 21, 59, 60, 61, 62, 63, 64, 65, 66, 67, 68, 69, 70, 71, 72, 73, 74] (by decide +kernel) (by decide +kernel)
set_option maxRecDepth 20000 in
theorem gX4_isDone_X4_isPerson : GoodIn wsX4_isDone (wsV RX4 123 RX4 yX4_isPerson wsX4_isPerson) := goodIn_app (goodIn_of _ (by decide +kernel)) ggX4_isDone_X4_isPerson
set_option maxRecDepth 20000 in
theorem ggX4_isDone_X4_isThing : GoodIn wsX4_isDone wsX4_isThing := goodIn_r _ [28, 2, 19, 20, 6, 21, 59, 60, 61, 62, 63, 64, 65, 66, 67, 68, 69, 70, 71, 72, 73, 74] (by decide +kernel) (by decide +kernel)
set_option maxRecDepth 20000 in
theorem gX4_isDone_X4_isThing : GoodIn wsX4_isDone (wsV RX4 133 RX4 yX4_isThing wsX4_isThing) := goodIn_app (goodIn_of _ (by decide +kernel)) ggX4_isDone_X4_isThing
set_option maxRecDepth 20000 in
theorem ggX4_isDone_X4_isWhole : GoodIn wsX4_isDone wsX4_isWhole := goodIn_r _ [31, 22, 23, 6, 24] (by decide +kernel) (by decide +kernel)
set_option maxRecDepth 20000 in
theorem gX4_isDone_X4_isWhole : GoodIn wsX4_isDone (va_wsS RX4 72 yX4_isWhole wsX4_isWhole) := goodIn_app (goodIn_of _ (by decide +kernel)) ggX4_isDone_X4_isWhole
set_option maxRecDepth 20000 in
theorem ggX4_isDone_X4_ofT : GoodIn wsX4_isDone wsX4_ofT := goodIn_r _ [24] (by decide +kernel) (by decide +kernel)
set_option maxRecDepth 20000 in
theorem gX4_isDone_X4_ofT : GoodIn wsX4_isDone (va_wsS RX4 51 yX4_ofT wsX4_ofT) := goodIn_app (goodIn_of _ (by decide +kernel)) ggX4_isDone_X4_ofT
set_option maxRecDepth 20000 in
theorem ggX4_isDone_X4_isIn : GoodIn wsX4_isDone wsX4_isIn := goodIn_r _ [21] (by decide +kernel) (by decide +kernel)
set_option maxRecDepth 20000 in
theorem gX4_isDone_X4_isIn : GoodIn wsX4_isDone (va_wsS RX4 47 yX4_isIn wsX4_isIn) := goodIn_app (goodIn_of _ (by decide +kernel)) ggX4_isDone_X4_isIn
set_option maxRecDepth 20000 in
theorem ggX4_isDone_X4_daysOn : GoodIn wsX4_isDone wsX4_daysOn := goodIn_r _ [34, 35, 36, 6, 37, 29, 30, 31, 22, 23, 24, 38, 39, 40, 41, 42, 43, 44, 45, 46, 47, 48, 49, 50, 51, 52, 8, 9, 10, 53, 54, 55, 56, 57, 58] (by decide +kernel) (by decide +kernel)
set_option maxRecDepth 20000 in
theorem gX4_isDone_X4_daysOn : GoodIn wsX4_isDone (va_wsS RX4 91 yX4_daysOn wsX4_daysOn) := goodIn_app (goodIn_of _ (by decide +kernel)) ggX4_isDone_X4_daysOn
theorem dX4_isDone_0 : decode cX4_isDone 0 = .ok (.aload_n 0, 1) := by decide +kernel
theorem dX4_isDone_1 : decode cX4_isDone 1 = .ok (.getfield 31, 3) := by decide +kernel
theorem dX4_isDone_4 : decode cX4_isDone 4 = .ok (.iconst 0, 1) := by decide +kernel
theorem dX4_isDone_5 : decode cX4_isDone 5 = .ok (.iaload, 1) := by decide +kernel
theorem dX4_isDone_6 : decode cX4_isDone 6 = .ok (.istore_n 2, 1) := by decide +kernel
theorem dX4_isDone_7 : decode cX4_isDone 7 = .ok (.aload_n 0, 1) := by decide +kernel
theorem dX4_isDone_8 : decode cX4_isDone 8 = .ok (.getfield 31, 3) := by decide +kernel
theorem dX4_isDone_11 : decode cX4_isDone 11 = .ok (.iconst 1, 1) := by decide +kernel
theorem dX4_isDone_12 : decode cX4_isDone 12 = .ok (.iaload, 1) := by decide +kernel
theorem dX4_isDone_13 : decode cX4_isDone 13 = .ok (.istore_n 3, 1) := by decide +kernel
theorem dX4_isDone_14 : decode cX4_isDone 14 = .ok (.iload_n 1, 1) := by decide +kernel
theorem dX4_isDone_15 : decode cX4_isDone 15 = .ok (.lookupswitch 227 #[(98, 76), (110, 119), (112, 57), (115, 155), (116, 63), (119, 203)], 57) := by decide +kernel
theorem dX4_isDone_72 : decode cX4_isDone 72 = .ok (.aload_n 0, 1) := by decide +kernel
theorem dX4_isDone_73 : decode cX4_isDone 73 = .ok (.iload_n 2, 1) := by decide +kernel
theorem dX4_isDone_74 : decode cX4_isDone 74 = .ok (.invokevirtual 127, 3) := by decide +kernel
theorem dX4_isDone_77 : decode cX4_isDone 77 = .ok (.ireturn, 1) := by decide +kernel
theorem dX4_isDone_78 : decode cX4_isDone 78 = .ok (.aload_n 0, 1) := by decide +kernel
theorem dX4_isDone_79 : decode cX4_isDone 79 = .ok (.iload_n 2, 1) := by decide +kernel
theorem dX4_isDone_80 : decode cX4_isDone 80 = .ok (.iload_n 3, 1) := by decide +kernel
theorem dX4_isDone_81 : decode cX4_isDone 81 = .ok (.aload_n 0, 1) := by decide +kernel
theorem dX4_isDone_82 : decode cX4_isDone 82 = .ok (.getfield 31, 3) := by decide +kernel
theorem dX4_isDone_85 : decode cX4_isDone 85 = .ok (.iconst 2, 1) := by decide +kernel
theorem dX4_isDone_86 : decode cX4_isDone 86 = .ok (.iaload, 1) := by decide +kernel
theorem dX4_isDone_87 : decode cX4_isDone 87 = .ok (.invokevirtual 130, 3) := by decide +kernel
theorem dX4_isDone_90 : decode cX4_isDone 90 = .ok (.ireturn, 1) := by decide +kernel
theorem dX4_isDone_91 : decode cX4_isDone 91 = .ok (.aload_n 0, 1) := by decide +kernel
theorem dX4_isDone_92 : decode cX4_isDone 92 = .ok (.iload_n 2, 1) := by decide +kernel
theorem dX4_isDone_93 : decode cX4_isDone 93 = .ok (.invokevirtual 123, 3) := by decide +kernel
theorem dX4_isDone_96 : decode cX4_isDone 96 = .ok (.ifCond .eq 22, 3) := by decide +kernel
theorem dX4_isDone_99 : decode cX4_isDone 99 = .ok (.aload_n 0, 1) := by decide +kernel
theorem dX4_isDone_100 : decode cX4_isDone 100 = .ok (.iload_n 3, 1) := by decide +kernel
theorem dX4_isDone_101 : decode cX4_isDone 101 = .ok (.invokevirtual 133, 3) := by decide +kernel
theorem dX4_isDone_104 : decode cX4_isDone 104 = .ok (.ifCond .eq 14, 3) := by decide +kernel
theorem dX4_isDone_107 : decode cX4_isDone 107 = .ok (.aload_n 0, 1) := by decide +kernel
theorem dX4_isDone_108 : decode cX4_isDone 108 = .ok (.getfield 9, 3) := by decide +kernel
theorem dX4_isDone_111 : decode cX4_isDone 111 = .ok (.iload_n 3, 1) := by decide +kernel
theorem dX4_isDone_112 : decode cX4_isDone 112 = .ok (.invokestatic 72, 3) := by decide +kernel
theorem dX4_isDone_115 : decode cX4_isDone 115 = .ok (.ifCond .ne 5, 3) := by decide +kernel
theorem dX4_isDone_118 : decode cX4_isDone 118 = .ok (.iconst 0, 1) := by decide +kernel
theorem dX4_isDone_119 : decode cX4_isDone 119 = .ok (.ireturn, 1) := by decide +kernel
theorem dX4_isDone_120 : decode cX4_isDone 120 = .ok (.aload_n 0, 1) := by decide +kernel
theorem dX4_isDone_121 : decode cX4_isDone 121 = .ok (.getfield 9, 3) := by decide +kernel
theorem dX4_isDone_124 : decode cX4_isDone 124 = .ok (.iload_n 3, 1) := by decide +kernel
theorem dX4_isDone_125 : decode cX4_isDone 125 = .ok (.invokestatic 51, 3) := by decide +kernel
theorem dX4_isDone_128 : decode cX4_isDone 128 = .ok (.iconst 4, 1) := by decide +kernel
theorem dX4_isDone_129 : decode cX4_isDone 129 = .ok (.iadd, 1) := by decide +kernel
theorem dX4_isDone_130 : decode cX4_isDone 130 = .ok (.iload_n 2, 1) := by decide +kernel
theorem dX4_isDone_131 : decode cX4_isDone 131 = .ok (.iastore, 1) := by decide +kernel
theorem dX4_isDone_132 : decode cX4_isDone 132 = .ok (.iconst 1, 1) := by decide +kernel
theorem dX4_isDone_133 : decode cX4_isDone 133 = .ok (.ireturn, 1) := by decide +kernel
theorem dX4_isDone_134 : decode cX4_isDone 134 = .ok (.aload_n 0, 1) := by decide +kernel
theorem dX4_isDone_135 : decode cX4_isDone 135 = .ok (.iload_n 2, 1) := by decide +kernel
theorem dX4_isDone_136 : decode cX4_isDone 136 = .ok (.invokevirtual 133, 3) := by decide +kernel
theorem dX4_isDone_139 : decode cX4_isDone 139 = .ok (.ifCond .eq 14, 3) := by decide +kernel
theorem dX4_isDone_142 : decode cX4_isDone 142 = .ok (.aload_n 0, 1) := by decide +kernel
theorem dX4_isDone_143 : decode cX4_isDone 143 = .ok (.getfield 9, 3) := by decide +kernel
theorem dX4_isDone_146 : decode cX4_isDone 146 = .ok (.iload_n 2, 1) := by decide +kernel
theorem dX4_isDone_147 : decode cX4_isDone 147 = .ok (.invokestatic 72, 3) := by decide +kernel
theorem dX4_isDone_150 : decode cX4_isDone 150 = .ok (.ifCond .ne 5, 3) := by decide +kernel
theorem dX4_isDone_153 : decode cX4_isDone 153 = .ok (.iconst 0, 1) := by decide +kernel
theorem dX4_isDone_154 : decode cX4_isDone 154 = .ok (.ireturn, 1) := by decide +kernel
theorem dX4_isDone_155 : decode cX4_isDone 155 = .ok (.aload_n 0, 1) := by decide +kernel
theorem dX4_isDone_156 : decode cX4_isDone 156 = .ok (.getfield 9, 3) := by decide +kernel
theorem dX4_isDone_159 : decode cX4_isDone 159 = .ok (.iload_n 2, 1) := by decide +kernel
theorem dX4_isDone_160 : decode cX4_isDone 160 = .ok (.invokestatic 51, 3) := by decide +kernel
theorem dX4_isDone_163 : decode cX4_isDone 163 = .ok (.iconst 4, 1) := by decide +kernel
theorem dX4_isDone_164 : decode cX4_isDone 164 = .ok (.iadd, 1) := by decide +kernel
theorem dX4_isDone_165 : decode cX4_isDone 165 = .ok (.bipush (-8), 2) := by decide +kernel
theorem dX4_isDone_167 : decode cX4_isDone 167 = .ok (.iastore, 1) := by decide +kernel
theorem dX4_isDone_168 : decode cX4_isDone 168 = .ok (.iconst 1, 1) := by decide +kernel
theorem dX4_isDone_169 : decode cX4_isDone 169 = .ok (.ireturn, 1) := by decide +kernel
theorem dX4_isDone_170 : decode cX4_isDone 170 = .ok (.aload_n 0, 1) := by decide +kernel
theorem dX4_isDone_171 : decode cX4_isDone 171 = .ok (.iload_n 2, 1) := by decide +kernel
theorem dX4_isDone_172 : decode cX4_isDone 172 = .ok (.invokevirtual 123, 3) := by decide +kernel
theorem dX4_isDone_175 : decode cX4_isDone 175 = .ok (.ifCond .eq 27, 3) := by decide +kernel
theorem dX4_isDone_178 : decode cX4_isDone 178 = .ok (.aload_n 0, 1) := by decide +kernel
theorem dX4_isDone_179 : decode cX4_isDone 179 = .ok (.iload_n 3, 1) := by decide +kernel
theorem dX4_isDone_180 : decode cX4_isDone 180 = .ok (.invokevirtual 133, 3) := by decide +kernel
theorem dX4_isDone_183 : decode cX4_isDone 183 = .ok (.ifCond .eq 19, 3) := by decide +kernel
theorem dX4_isDone_186 : decode cX4_isDone 186 = .ok (.aload_n 0, 1) := by decide +kernel
theorem dX4_isDone_187 : decode cX4_isDone 187 = .ok (.getfield 9, 3) := by decide +kernel
theorem dX4_isDone_190 : decode cX4_isDone 190 = .ok (.iload_n 3, 1) := by decide +kernel
theorem dX4_isDone_191 : decode cX4_isDone 191 = .ok (.invokestatic 51, 3) := by decide +kernel
theorem dX4_isDone_194 : decode cX4_isDone 194 = .ok (.iconst 4, 1) := by decide +kernel
theorem dX4_isDone_195 : decode cX4_isDone 195 = .ok (.iadd, 1) := by decide +kernel
theorem dX4_isDone_196 : decode cX4_isDone 196 = .ok (.iaload, 1) := by decide +kernel
theorem dX4_isDone_197 : decode cX4_isDone 197 = .ok (.bipush (-8), 2) := by decide +kernel
theorem dX4_isDone_199 : decode cX4_isDone 199 = .ok (.if_icmp .eq 5, 3) := by decide +kernel
theorem dX4_isDone_202 : decode cX4_isDone 202 = .ok (.iconst 0, 1) := by decide +kernel
theorem dX4_isDone_203 : decode cX4_isDone 203 = .ok (.ireturn, 1) := by decide +kernel
theorem dX4_isDone_204 : decode cX4_isDone 204 = .ok (.aload_n 0, 1) := by decide +kernel
theorem dX4_isDone_205 : decode cX4_isDone 205 = .ok (.getfield 9, 3) := by decide +kernel
theorem dX4_isDone_208 : decode cX4_isDone 208 = .ok (.iload_n 3, 1) := by decide +kernel
theorem dX4_isDone_209 : decode cX4_isDone 209 = .ok (.invokestatic 51, 3) := by decide +kernel
theorem dX4_isDone_212 : decode cX4_isDone 212 = .ok (.iconst 4, 1) := by decide +kernel
theorem dX4_isDone_213 : decode cX4_isDone 213 = .ok (.iadd, 1) := by decide +kernel
theorem dX4_isDone_214 : decode cX4_isDone 214 = .ok (.iload_n 2, 1) := by decide +kernel
theorem dX4_isDone_215 : decode cX4_isDone 215 = .ok (.iastore, 1) := by decide +kernel
theorem dX4_isDone_216 : decode cX4_isDone 216 = .ok (.iconst 1, 1) := by decide +kernel
theorem dX4_isDone_217 : decode cX4_isDone 217 = .ok (.ireturn, 1) := by decide +kernel
theorem dX4_isDone_218 : decode cX4_isDone 218 = .ok (.aload_n 0, 1) := by decide +kernel
theorem dX4_isDone_219 : decode cX4_isDone 219 = .ok (.iload_n 2, 1) := by decide +kernel
theorem dX4_isDone_220 : decode cX4_isDone 220 = .ok (.invokevirtual 133, 3) := by decide +kernel
theorem dX4_isDone_223 : decode cX4_isDone 223 = .ok (.ifCond .ne 5, 3) := by decide +kernel
theorem dX4_isDone_226 : decode cX4_isDone 226 = .ok (.iconst 0, 1) := by decide +kernel
theorem dX4_isDone_227 : decode cX4_isDone 227 = .ok (.ireturn, 1) := by decide +kernel
theorem dX4_isDone_228 : decode cX4_isDone 228 = .ok (.aload_n 0, 1) := by decide +kernel
theorem dX4_isDone_229 : decode cX4_isDone 229 = .ok (.getfield 9, 3) := by decide +kernel
theorem dX4_isDone_232 : decode cX4_isDone 232 = .ok (.iload_n 2, 1) := by decide +kernel
theorem dX4_isDone_233 : decode cX4_isDone 233 = .ok (.invokestatic 51, 3) := by decide +kernel
theorem dX4_isDone_236 : decode cX4_isDone 236 = .ok (.iconst 3, 1) := by decide +kernel
theorem dX4_isDone_237 : decode cX4_isDone 237 = .ok (.iadd, 1) := by decide +kernel
theorem dX4_isDone_238 : decode cX4_isDone 238 = .ok (.iload_n 3, 1) := by decide +kernel
theorem dX4_isDone_239 : decode cX4_isDone 239 = .ok (.iastore, 1) := by decide +kernel
theorem dX4_isDone_240 : decode cX4_isDone 240 = .ok (.iconst 1, 1) := by decide +kernel
theorem dX4_isDone_241 : decode cX4_isDone 241 = .ok (.ireturn, 1) := by decide +kernel
theorem dX4_isDone_242 : decode cX4_isDone 242 = .ok (.iload_n 2, 1) := by decide +kernel
theorem dX4_isDone_243 : decode cX4_isDone 243 = .ok (.iconst 1, 1) := by decide +kernel
theorem dX4_isDone_244 : decode cX4_isDone 244 = .ok (.bipush 60, 2) := by decide +kernel
theorem dX4_isDone_246 : decode cX4_isDone 246 = .ok (.invokestatic 47, 3) := by decide +kernel
theorem dX4_isDone_249 : decode cX4_isDone 249 = .ok (.ifCond .eq 17, 3) := by decide +kernel
theorem dX4_isDone_252 : decode cX4_isDone 252 = .ok (.aload_n 0, 1) := by decide +kernel
theorem dX4_isDone_253 : decode cX4_isDone 253 = .ok (.getfield 9, 3) := by decide +kernel
theorem dX4_isDone_256 : decode cX4_isDone 256 = .ok (.iconst 2, 1) := by decide +kernel
theorem dX4_isDone_257 : decode cX4_isDone 257 = .ok (.iaload, 1) := by decide +kernel
theorem dX4_isDone_258 : decode cX4_isDone 258 = .ok (.iload_n 2, 1) := by decide +kernel
theorem dX4_isDone_259 : decode cX4_isDone 259 = .ok (.iadd, 1) := by decide +kernel
theorem dX4_isDone_260 : decode cX4_isDone 260 = .ok (.sipush 999, 3) := by decide +kernel
theorem dX4_isDone_263 : decode cX4_isDone 263 = .ok (.if_icmp .le 5, 3) := by decide +kernel
theorem dX4_isDone_266 : decode cX4_isDone 266 = .ok (.iconst 0, 1) := by decide +kernel
theorem dX4_isDone_267 : decode cX4_isDone 267 = .ok (.ireturn, 1) := by decide +kernel
theorem dX4_isDone_268 : decode cX4_isDone 268 = .ok (.aload_n 0, 1) := by decide +kernel
theorem dX4_isDone_269 : decode cX4_isDone 269 = .ok (.getfield 9, 3) := by decide +kernel
theorem dX4_isDone_272 : decode cX4_isDone 272 = .ok (.iload_n 2, 1) := by decide +kernel
theorem dX4_isDone_273 : decode cX4_isDone 273 = .ok (.invokestatic 91, 3) := by decide +kernel
theorem dX4_isDone_276 : decode cX4_isDone 276 = .ok (.iconst 1, 1) := by decide +kernel
theorem dX4_isDone_277 : decode cX4_isDone 277 = .ok (.ireturn, 1) := by decide +kernel
set_option maxRecDepth 20000 in
theorem ggX4_lane_X4_readsStatement : GoodIn wsX4_lane wsX4_readsStatement := goodIn_r _ [9, 1, 10, 11, 12, 8, 13, 2, 14, 15, 16, 17, 18, 19, 20, 21, 22, 23, 24, 25, 26, 27, 28, 29, 89, 90, 91, 92, 93, 94, 95, 96, 97, 98, 99, 100, 101, 102, 103, 104] (by decide +kernel) (by decide +kernel)
set_option maxRecDepth 20000 in
theorem gX4_lane_X4_readsStatement : GoodIn wsX4_lane (wsV RX4 136 RX4 yX4_readsStatement wsX4_readsStatement) := goodIn_app (goodIn_of _ (by decide +kernel)) ggX4_lane_X4_readsStatement
set_option maxRecDepth 20000 in
theorem ggX4_lane_X4_copies : GoodIn wsX4_lane wsX4_copies := goodIn_r _ [32] (by decide +kernel) (by decide +kernel)
set_option maxRecDepth 20000 in
theorem gX4_lane_X4_copies : GoodIn wsX4_lane (va_wsS RX4 139 yX4_copies wsX4_copies) := goodIn_app (goodIn_of _ (by decide +kernel)) ggX4_lane_X4_copies
set_option maxRecDepth 20000 in
theorem ggX4_lane_X4_here : GoodIn wsX4_lane wsX4_here := goodIn_r _ [13, 1, 2, 14, 89, 90, 91, 92, 93, 94, 95, 96, 97, 98, 99, 100, 101, 102, 103, 104] (by decide +kernel) (by decide +kernel)
set_option maxRecDepth 20000 in
theorem gX4_lane_X4_here : GoodIn wsX4_lane (wsV RX4 108 RX4 yX4_here wsX4_here) := goodIn_app (goodIn_of _ (by decide +kernel)) ggX4_lane_X4_here
set_option maxRecDepth 20000 in
theorem ggX4_lane_X4_isDone : GoodIn wsX4_lane wsX4_isDone := goodIn_r _ [36, 19, 3, 37, 38, 39, 8, 40, 41, 42, 43, 44, 45, 46, 47, 48, 49, 50, 51, 20, 21, 22, 52, 53, 54, 55, 56, 57, 58, 59, 60, 61, 62, 63, 64, 65, 66, 67, 68, 69, 70, 71, 72, 73, 74, 75, 76, 77, 78, 79, 80, 81, 82, 83, 84, 85, 86, 87, 88, 89, 90, 91, 92, 93, 94, 95, 96, 97, 98, 99, 100, 101, 102, 103, 104] (by decide +kernel) (by decide +kernel)
set_option maxRecDepth 20000 in
theorem gX4_lane_X4_isDone : GoodIn wsX4_lane (wsV RX4 143 RX4 yX4_isDone wsX4_isDone) := goodIn_app (goodIn_of _ (by decide +kernel)) ggX4_lane_X4_isDone
theorem dX4_lane_0 : decode cX4_lane 0 = .ok (.aload_n 0, 1) := by decide +kernel
theorem dX4_lane_1 : decode cX4_lane 1 = .ok (.iconst 0, 1) := by decide +kernel
theorem dX4_lane_2 : decode cX4_lane 2 = .ok (.putfield 105, 3) := by decide +kernel
theorem dX4_lane_5 : decode cX4_lane 5 = .ok (.iconst 0, 1) := by decide +kernel
theorem dX4_lane_6 : decode cX4_lane 6 = .ok (.istore_n 1, 1) := by decide +kernel
theorem dX4_lane_7 : decode cX4_lane 7 = .ok (.bipush (-9), 2) := by decide +kernel
theorem dX4_lane_9 : decode cX4_lane 9 = .ok (.istore_n 2, 1) := by decide +kernel
theorem dX4_lane_10 : decode cX4_lane 10 = .ok (.aload_n 0, 1) := by decide +kernel
theorem dX4_lane_11 : decode cX4_lane 11 = .ok (.invokevirtual 136, 3) := by decide +kernel
theorem dX4_lane_14 : decode cX4_lane 14 = .ok (.ifCond .ne 12, 3) := by decide +kernel
theorem dX4_lane_17 : decode cX4_lane 17 = .ok (.sipush (-1000), 3) := by decide +kernel
theorem dX4_lane_20 : decode cX4_lane 20 = .ok (.aload_n 0, 1) := by decide +kernel
theorem dX4_lane_21 : decode cX4_lane 21 = .ok (.getfield 105, 3) := by decide +kernel
theorem dX4_lane_24 : decode cX4_lane 24 = .ok (.isub, 1) := by decide +kernel
theorem dX4_lane_25 : decode cX4_lane 25 = .ok (.istore_n 2, 1) := by decide +kernel
theorem dX4_lane_26 : decode cX4_lane 26 = .ok (.iinc 1 1, 3) := by decide +kernel
theorem dX4_lane_29 : decode cX4_lane 29 = .ok (.iload_n 2, 1) := by decide +kernel
theorem dX4_lane_30 : decode cX4_lane 30 = .ok (.bipush (-9), 2) := by decide +kernel
theorem dX4_lane_32 : decode cX4_lane 32 = .ok (.if_icmp .ne 14, 3) := by decide +kernel
theorem dX4_lane_35 : decode cX4_lane 35 = .ok (.aload_n 0, 1) := by decide +kernel
theorem dX4_lane_36 : decode cX4_lane 36 = .ok (.getfield 105, 3) := by decide +kernel
theorem dX4_lane_39 : decode cX4_lane 39 = .ok (.aload_n 0, 1) := by decide +kernel
theorem dX4_lane_40 : decode cX4_lane 40 = .ok (.getfield 101, 3) := by decide +kernel
theorem dX4_lane_43 : decode cX4_lane 43 = .ok (.if_icmp .lt (-33), 3) := by decide +kernel
theorem dX4_lane_46 : decode cX4_lane 46 = .ok (.aload_n 0, 1) := by decide +kernel
theorem dX4_lane_47 : decode cX4_lane 47 = .ok (.getfield 9, 3) := by decide +kernel
theorem dX4_lane_50 : decode cX4_lane 50 = .ok (.aload_n 0, 1) := by decide +kernel
theorem dX4_lane_51 : decode cX4_lane 51 = .ok (.getfield 19, 3) := by decide +kernel
theorem dX4_lane_54 : decode cX4_lane 54 = .ok (.invokestatic 139, 3) := by decide +kernel
theorem dX4_lane_57 : decode cX4_lane 57 = .ok (.aload_n 0, 1) := by decide +kernel
theorem dX4_lane_58 : decode cX4_lane 58 = .ok (.iconst 0, 1) := by decide +kernel
theorem dX4_lane_59 : decode cX4_lane 59 = .ok (.putfield 105, 3) := by decide +kernel
theorem dX4_lane_62 : decode cX4_lane 62 = .ok (.iload_n 2, 1) := by decide +kernel
theorem dX4_lane_63 : decode cX4_lane 63 = .ok (.bipush (-9), 2) := by decide +kernel
theorem dX4_lane_65 : decode cX4_lane 65 = .ok (.if_icmp .ne 63, 3) := by decide +kernel
theorem dX4_lane_68 : decode cX4_lane 68 = .ok (.aload_n 0, 1) := by decide +kernel
theorem dX4_lane_69 : decode cX4_lane 69 = .ok (.getfield 105, 3) := by decide +kernel
theorem dX4_lane_72 : decode cX4_lane 72 = .ok (.aload_n 0, 1) := by decide +kernel
theorem dX4_lane_73 : decode cX4_lane 73 = .ok (.getfield 101, 3) := by decide +kernel
theorem dX4_lane_76 : decode cX4_lane 76 = .ok (.if_icmp .ge 52, 3) := by decide +kernel
theorem dX4_lane_79 : decode cX4_lane 79 = .ok (.aload_n 0, 1) := by decide +kernel
theorem dX4_lane_80 : decode cX4_lane 80 = .ok (.getfield 105, 3) := by decide +kernel
theorem dX4_lane_83 : decode cX4_lane 83 = .ok (.istore_n 3, 1) := by decide +kernel
theorem dX4_lane_84 : decode cX4_lane 84 = .ok (.aload_n 0, 1) := by decide +kernel
theorem dX4_lane_85 : decode cX4_lane 85 = .ok (.invokevirtual 108, 3) := by decide +kernel
theorem dX4_lane_88 : decode cX4_lane 88 = .ok (.istore 4, 2) := by decide +kernel
theorem dX4_lane_90 : decode cX4_lane 90 = .ok (.aload_n 0, 1) := by decide +kernel
theorem dX4_lane_91 : decode cX4_lane 91 = .ok (.invokevirtual 136, 3) := by decide +kernel
theorem dX4_lane_94 : decode cX4_lane 94 = .ok (.istore 5, 2) := by decide +kernel
theorem dX4_lane_96 : decode cX4_lane 96 = .ok (.aload_n 0, 1) := by decide +kernel
theorem dX4_lane_97 : decode cX4_lane 97 = .ok (.iload 4, 2) := by decide +kernel
theorem dX4_lane_99 : decode cX4_lane 99 = .ok (.invokevirtual 143, 3) := by decide +kernel
theorem dX4_lane_102 : decode cX4_lane 102 = .ok (.ifCond .eq 6, 3) := by decide +kernel
theorem dX4_lane_105 : decode cX4_lane 105 = .ok (.goto (-43), 3) := by decide +kernel
theorem dX4_lane_108 : decode cX4_lane 108 = .ok (.sipush (-2000), 3) := by decide +kernel
theorem dX4_lane_111 : decode cX4_lane 111 = .ok (.iload_n 3, 1) := by decide +kernel
theorem dX4_lane_112 : decode cX4_lane 112 = .ok (.isub, 1) := by decide +kernel
theorem dX4_lane_113 : decode cX4_lane 113 = .ok (.istore_n 2, 1) := by decide +kernel
theorem dX4_lane_114 : decode cX4_lane 114 = .ok (.aload_n 0, 1) := by decide +kernel
theorem dX4_lane_115 : decode cX4_lane 115 = .ok (.getfield 19, 3) := by decide +kernel
theorem dX4_lane_118 : decode cX4_lane 118 = .ok (.aload_n 0, 1) := by decide +kernel
theorem dX4_lane_119 : decode cX4_lane 119 = .ok (.getfield 9, 3) := by decide +kernel
theorem dX4_lane_122 : decode cX4_lane 122 = .ok (.invokestatic 139, 3) := by decide +kernel
theorem dX4_lane_125 : decode cX4_lane 125 = .ok (.goto (-63), 3) := by decide +kernel
theorem dX4_lane_128 : decode cX4_lane 128 = .ok (.aload_n 0, 1) := by decide +kernel
theorem dX4_lane_129 : decode cX4_lane 129 = .ok (.iconst 0, 1) := by decide +kernel
theorem dX4_lane_130 : decode cX4_lane 130 = .ok (.putfield 101, 3) := by decide +kernel
theorem dX4_lane_133 : decode cX4_lane 133 = .ok (.iload_n 2, 1) := by decide +kernel
theorem dX4_lane_134 : decode cX4_lane 134 = .ok (.bipush (-9), 2) := by decide +kernel
theorem dX4_lane_136 : decode cX4_lane 136 = .ok (.if_icmp .ne 7, 3) := by decide +kernel
theorem dX4_lane_139 : decode cX4_lane 139 = .ok (.iload_n 1, 1) := by decide +kernel
theorem dX4_lane_140 : decode cX4_lane 140 = .ok (.goto 4, 3) := by decide +kernel
theorem dX4_lane_143 : decode cX4_lane 143 = .ok (.iload_n 2, 1) := by decide +kernel
theorem dX4_lane_144 : decode cX4_lane 144 = .ok (.ireturn, 1) := by decide +kernel
set_option maxRecDepth 20000 in
theorem ggX4_person_X4_isPerson : GoodIn wsX4_person wsX4_isPerson := goodIn_r _ [6, 1, 7, 8, 5, 9, 21, 22, 23, 24, 25, 26, 27, 28, 29, 30, 31, 32, 33, 34, 35, 36] (by decide +kernel) (by decide +kernel)
set_option maxRecDepth 20000 in
theorem gX4_person_X4_isPerson : GoodIn wsX4_person (wsV RX4 123 RX4 yX4_isPerson wsX4_isPerson) := goodIn_app (goodIn_of _ (by decide +kernel)) ggX4_person_X4_isPerson
set_option maxRecDepth 20000 in
theorem ggX4_person_X4_no : GoodIn wsX4_person wsX4_no := goodIn_r _ [13, 14, 21, 22, 23, 24, 25, 26, 27, 28, 29, 30, 31, 32, 33, 34, 35, 36] (by decide +kernel) (by decide +kernel)
set_option maxRecDepth 20000 in
theorem gX4_person_X4_no : GoodIn wsX4_person (wsV RX4 41 RX4 yX4_no wsX4_no) := goodIn_app (goodIn_of _ (by decide +kernel)) ggX4_person_X4_no
set_option maxRecDepth 20000 in
theorem ggX4_person_X4_isIn : GoodIn wsX4_person wsX4_isIn := goodIn_r _ [9] (by decide +kernel) (by decide +kernel)
set_option maxRecDepth 20000 in
theorem gX4_person_X4_isIn : GoodIn wsX4_person (va_wsS RX4 47 yX4_isIn wsX4_isIn) := goodIn_app (goodIn_of _ (by decide +kernel)) ggX4_person_X4_isIn
set_option maxRecDepth 20000 in
theorem ggX4_person_X4_ofP : GoodIn wsX4_person wsX4_ofP := goodIn_r _ [17] (by decide +kernel) (by decide +kernel)
set_option maxRecDepth 20000 in
theorem gX4_person_X4_ofP : GoodIn wsX4_person (va_wsS RX4 58 yX4_ofP wsX4_ofP) := goodIn_app (goodIn_of _ (by decide +kernel)) ggX4_person_X4_ofP
set_option maxRecDepth 20000 in
theorem ggX4_person_X4_ofT : GoodIn wsX4_person wsX4_ofT := goodIn_r _ [20] (by decide +kernel) (by decide +kernel)
set_option maxRecDepth 20000 in
theorem gX4_person_X4_ofT : GoodIn wsX4_person (va_wsS RX4 51 yX4_ofT wsX4_ofT) := goodIn_app (goodIn_of _ (by decide +kernel)) ggX4_person_X4_ofT
theorem dX4_person_0 : decode cX4_person 0 = .ok (.aload_n 0, 1) := by decide +kernel
theorem dX4_person_1 : decode cX4_person 1 = .ok (.iload_n 1, 1) := by decide +kernel
theorem dX4_person_2 : decode cX4_person 2 = .ok (.invokevirtual 123, 3) := by decide +kernel
theorem dX4_person_5 : decode cX4_person 5 = .ok (.ifCond .ne 9, 3) := by decide +kernel
theorem dX4_person_8 : decode cX4_person 8 = .ok (.aload_n 0, 1) := by decide +kernel
theorem dX4_person_9 : decode cX4_person 9 = .ok (.iconst (-1), 1) := by decide +kernel
theorem dX4_person_10 : decode cX4_person 10 = .ok (.invokevirtual 41, 3) := by decide +kernel
theorem dX4_person_13 : decode cX4_person 13 = .ok (.ireturn, 1) := by decide +kernel
theorem dX4_person_14 : decode cX4_person 14 = .ok (.iload_n 2, 1) := by decide +kernel
theorem dX4_person_15 : decode cX4_person 15 = .ok (.iconst 0, 1) := by decide +kernel
theorem dX4_person_16 : decode cX4_person 16 = .ok (.iconst 1, 1) := by decide +kernel
theorem dX4_person_17 : decode cX4_person 17 = .ok (.invokestatic 47, 3) := by decide +kernel
theorem dX4_person_20 : decode cX4_person 20 = .ok (.ifCond .eq 15, 3) := by decide +kernel
theorem dX4_person_23 : decode cX4_person 23 = .ok (.aload_n 0, 1) := by decide +kernel
theorem dX4_person_24 : decode cX4_person 24 = .ok (.getfield 9, 3) := by decide +kernel
theorem dX4_person_27 : decode cX4_person 27 = .ok (.iload_n 1, 1) := by decide +kernel
theorem dX4_person_28 : decode cX4_person 28 = .ok (.invokestatic 58, 3) := by decide +kernel
theorem dX4_person_31 : decode cX4_person 31 = .ok (.iload_n 2, 1) := by decide +kernel
theorem dX4_person_32 : decode cX4_person 32 = .ok (.iadd, 1) := by decide +kernel
theorem dX4_person_33 : decode cX4_person 33 = .ok (.iaload, 1) := by decide +kernel
theorem dX4_person_34 : decode cX4_person 34 = .ok (.ireturn, 1) := by decide +kernel
theorem dX4_person_35 : decode cX4_person 35 = .ok (.iload_n 2, 1) := by decide +kernel
theorem dX4_person_36 : decode cX4_person 36 = .ok (.iconst 2, 1) := by decide +kernel
theorem dX4_person_37 : decode cX4_person 37 = .ok (.iconst 3, 1) := by decide +kernel
theorem dX4_person_38 : decode cX4_person 38 = .ok (.invokestatic 47, 3) := by decide +kernel
theorem dX4_person_41 : decode cX4_person 41 = .ok (.ifCond .ne 10, 3) := by decide +kernel
theorem dX4_person_44 : decode cX4_person 44 = .ok (.aload_n 0, 1) := by decide +kernel
theorem dX4_person_45 : decode cX4_person 45 = .ok (.bipush (-2), 2) := by decide +kernel
theorem dX4_person_47 : decode cX4_person 47 = .ok (.invokevirtual 41, 3) := by decide +kernel
theorem dX4_person_50 : decode cX4_person 50 = .ok (.ireturn, 1) := by decide +kernel
theorem dX4_person_51 : decode cX4_person 51 = .ok (.iconst 0, 1) := by decide +kernel
theorem dX4_person_52 : decode cX4_person 52 = .ok (.istore_n 3, 1) := by decide +kernel
theorem dX4_person_53 : decode cX4_person 53 = .ok (.iconst 0, 1) := by decide +kernel
theorem dX4_person_54 : decode cX4_person 54 = .ok (.istore 4, 2) := by decide +kernel
theorem dX4_person_56 : decode cX4_person 56 = .ok (.iload 4, 2) := by decide +kernel
theorem dX4_person_58 : decode cX4_person 58 = .ok (.aload_n 0, 1) := by decide +kernel
theorem dX4_person_59 : decode cX4_person 59 = .ok (.getfield 9, 3) := by decide +kernel
theorem dX4_person_62 : decode cX4_person 62 = .ok (.iconst 1, 1) := by decide +kernel
theorem dX4_person_63 : decode cX4_person 63 = .ok (.iaload, 1) := by decide +kernel
theorem dX4_person_64 : decode cX4_person 64 = .ok (.if_icmp .ge 42, 3) := by decide +kernel
theorem dX4_person_67 : decode cX4_person 67 = .ok (.iload_n 3, 1) := by decide +kernel
theorem dX4_person_68 : decode cX4_person 68 = .ok (.aload_n 0, 1) := by decide +kernel
theorem dX4_person_69 : decode cX4_person 69 = .ok (.getfield 9, 3) := by decide +kernel
theorem dX4_person_72 : decode cX4_person 72 = .ok (.iload 4, 2) := by decide +kernel
theorem dX4_person_74 : decode cX4_person 74 = .ok (.invokestatic 51, 3) := by decide +kernel
theorem dX4_person_77 : decode cX4_person 77 = .ok (.iload_n 2, 1) := by decide +kernel
theorem dX4_person_78 : decode cX4_person 78 = .ok (.iconst 2, 1) := by decide +kernel
theorem dX4_person_79 : decode cX4_person 79 = .ok (.if_icmp .ne 7, 3) := by decide +kernel
theorem dX4_person_82 : decode cX4_person 82 = .ok (.iconst 2, 1) := by decide +kernel
theorem dX4_person_83 : decode cX4_person 83 = .ok (.goto 4, 3) := by decide +kernel
theorem dX4_person_86 : decode cX4_person 86 = .ok (.iconst 4, 1) := by decide +kernel
theorem dX4_person_87 : decode cX4_person 87 = .ok (.iadd, 1) := by decide +kernel
theorem dX4_person_88 : decode cX4_person 88 = .ok (.iaload, 1) := by decide +kernel
theorem dX4_person_89 : decode cX4_person 89 = .ok (.iload_n 1, 1) := by decide +kernel
theorem dX4_person_90 : decode cX4_person 90 = .ok (.if_icmp .ne 7, 3) := by decide +kernel
theorem dX4_person_93 : decode cX4_person 93 = .ok (.iconst 1, 1) := by decide +kernel
theorem dX4_person_94 : decode cX4_person 94 = .ok (.goto 4, 3) := by decide +kernel
theorem dX4_person_97 : decode cX4_person 97 = .ok (.iconst 0, 1) := by decide +kernel
theorem dX4_person_98 : decode cX4_person 98 = .ok (.iadd, 1) := by decide +kernel
theorem dX4_person_99 : decode cX4_person 99 = .ok (.istore_n 3, 1) := by decide +kernel
theorem dX4_person_100 : decode cX4_person 100 = .ok (.iinc 4 1, 3) := by decide +kernel
theorem dX4_person_103 : decode cX4_person 103 = .ok (.goto (-47), 3) := by decide +kernel
theorem dX4_person_106 : decode cX4_person 106 = .ok (.iload_n 3, 1) := by decide +kernel
theorem dX4_person_107 : decode cX4_person 107 = .ok (.ireturn, 1) := by decide +kernel
set_option maxRecDepth 20000 in
theorem ggX4_thing_X4_isThing : GoodIn wsX4_thing wsX4_isThing := goodIn_r _ [6, 1, 7, 8, 5, 9, 30, 31, 32, 33, 34, 35, 36, 37, 38, 39, 40, 41, 42, 43, 44, 45] (by decide +kernel) (by decide +kernel)
set_option maxRecDepth 20000 in
theorem gX4_thing_X4_isThing : GoodIn wsX4_thing (wsV RX4 133 RX4 yX4_isThing wsX4_isThing) := goodIn_app (goodIn_of _ (by decide +kernel)) ggX4_thing_X4_isThing
set_option maxRecDepth 20000 in
theorem ggX4_thing_X4_no : GoodIn wsX4_thing wsX4_no := goodIn_r _ [13, 14, 30, 31, 32, 33, 34, 35, 36, 37, 38, 39, 40, 41, 42, 43, 44, 45] (by decide +kernel) (by decide +kernel)
set_option maxRecDepth 20000 in
theorem gX4_thing_X4_no : GoodIn wsX4_thing (wsV RX4 41 RX4 yX4_no wsX4_no) := goodIn_app (goodIn_of _ (by decide +kernel)) ggX4_thing_X4_no
set_option maxRecDepth 20000 in
theorem ggX4_thing_X4_isIn : GoodIn wsX4_thing wsX4_isIn := goodIn_r _ [9] (by decide +kernel) (by decide +kernel)
set_option maxRecDepth 20000 in
theorem gX4_thing_X4_isIn : GoodIn wsX4_thing (va_wsS RX4 47 yX4_isIn wsX4_isIn) := goodIn_app (goodIn_of _ (by decide +kernel)) ggX4_thing_X4_isIn
set_option maxRecDepth 20000 in
theorem ggX4_thing_X4_ofT : GoodIn wsX4_thing wsX4_ofT := goodIn_r _ [17] (by decide +kernel) (by decide +kernel)
set_option maxRecDepth 20000 in
theorem gX4_thing_X4_ofT : GoodIn wsX4_thing (va_wsS RX4 51 yX4_ofT wsX4_ofT) := goodIn_app (goodIn_of _ (by decide +kernel)) ggX4_thing_X4_ofT
set_option maxRecDepth 20000 in
theorem ggX4_thing_X4_hard : GoodIn wsX4_thing wsX4_hard := goodIn_r _ [20, 15, 16, 5, 17, 21, 22, 23, 24, 25, 26] (by decide +kernel) (by decide +kernel)
set_option maxRecDepth 20000 in
theorem gX4_thing_X4_hard : GoodIn wsX4_thing (va_wsS RX4 61 yX4_hard wsX4_hard) := goodIn_app (goodIn_of _ (by decide +kernel)) ggX4_thing_X4_hard
set_option maxRecDepth 20000 in
theorem ggX4_thing_X4_wearBy : GoodIn wsX4_thing wsX4_wearBy := goodIn_r _ [29] (by decide +kernel) (by decide +kernel)
set_option maxRecDepth 20000 in
theorem gX4_thing_X4_wearBy : GoodIn wsX4_thing (va_wsS RX4 76 yX4_wearBy wsX4_wearBy) := goodIn_app (goodIn_of _ (by decide +kernel)) ggX4_thing_X4_wearBy
theorem dX4_thing_0 : decode cX4_thing 0 = .ok (.aload_n 0, 1) := by decide +kernel
theorem dX4_thing_1 : decode cX4_thing 1 = .ok (.iload_n 1, 1) := by decide +kernel
theorem dX4_thing_2 : decode cX4_thing 2 = .ok (.invokevirtual 133, 3) := by decide +kernel
theorem dX4_thing_5 : decode cX4_thing 5 = .ok (.ifCond .ne 9, 3) := by decide +kernel
theorem dX4_thing_8 : decode cX4_thing 8 = .ok (.aload_n 0, 1) := by decide +kernel
theorem dX4_thing_9 : decode cX4_thing 9 = .ok (.iconst (-1), 1) := by decide +kernel
theorem dX4_thing_10 : decode cX4_thing 10 = .ok (.invokevirtual 41, 3) := by decide +kernel
theorem dX4_thing_13 : decode cX4_thing 13 = .ok (.ireturn, 1) := by decide +kernel
theorem dX4_thing_14 : decode cX4_thing 14 = .ok (.iload_n 2, 1) := by decide +kernel
theorem dX4_thing_15 : decode cX4_thing 15 = .ok (.iconst 0, 1) := by decide +kernel
theorem dX4_thing_16 : decode cX4_thing 16 = .ok (.iconst 4, 1) := by decide +kernel
theorem dX4_thing_17 : decode cX4_thing 17 = .ok (.invokestatic 47, 3) := by decide +kernel
theorem dX4_thing_20 : decode cX4_thing 20 = .ok (.ifCond .eq 15, 3) := by decide +kernel
theorem dX4_thing_23 : decode cX4_thing 23 = .ok (.aload_n 0, 1) := by decide +kernel
theorem dX4_thing_24 : decode cX4_thing 24 = .ok (.getfield 9, 3) := by decide +kernel
theorem dX4_thing_27 : decode cX4_thing 27 = .ok (.iload_n 1, 1) := by decide +kernel
theorem dX4_thing_28 : decode cX4_thing 28 = .ok (.invokestatic 51, 3) := by decide +kernel
theorem dX4_thing_31 : decode cX4_thing 31 = .ok (.iload_n 2, 1) := by decide +kernel
theorem dX4_thing_32 : decode cX4_thing 32 = .ok (.iadd, 1) := by decide +kernel
theorem dX4_thing_33 : decode cX4_thing 33 = .ok (.iaload, 1) := by decide +kernel
theorem dX4_thing_34 : decode cX4_thing 34 = .ok (.ireturn, 1) := by decide +kernel
theorem dX4_thing_35 : decode cX4_thing 35 = .ok (.iload_n 2, 1) := by decide +kernel
theorem dX4_thing_36 : decode cX4_thing 36 = .ok (.iconst 5, 1) := by decide +kernel
theorem dX4_thing_37 : decode cX4_thing 37 = .ok (.if_icmp .ne 14, 3) := by decide +kernel
theorem dX4_thing_40 : decode cX4_thing 40 = .ok (.aload_n 0, 1) := by decide +kernel
theorem dX4_thing_41 : decode cX4_thing 41 = .ok (.getfield 9, 3) := by decide +kernel
theorem dX4_thing_44 : decode cX4_thing 44 = .ok (.iload_n 1, 1) := by decide +kernel
theorem dX4_thing_45 : decode cX4_thing 45 = .ok (.invokestatic 61, 3) := by decide +kernel
theorem dX4_thing_48 : decode cX4_thing 48 = .ok (.goto 51, 3) := by decide +kernel
theorem dX4_thing_51 : decode cX4_thing 51 = .ok (.iload_n 2, 1) := by decide +kernel
theorem dX4_thing_52 : decode cX4_thing 52 = .ok (.bipush 6, 2) := by decide +kernel
theorem dX4_thing_54 : decode cX4_thing 54 = .ok (.if_icmp .ne 39, 3) := by decide +kernel
theorem dX4_thing_57 : decode cX4_thing 57 = .ok (.aload_n 0, 1) := by decide +kernel
theorem dX4_thing_58 : decode cX4_thing 58 = .ok (.getfield 9, 3) := by decide +kernel
theorem dX4_thing_61 : decode cX4_thing 61 = .ok (.iload_n 1, 1) := by decide +kernel
theorem dX4_thing_62 : decode cX4_thing 62 = .ok (.invokestatic 51, 3) := by decide +kernel
theorem dX4_thing_65 : decode cX4_thing 65 = .ok (.iconst 0, 1) := by decide +kernel
theorem dX4_thing_66 : decode cX4_thing 66 = .ok (.iadd, 1) := by decide +kernel
theorem dX4_thing_67 : decode cX4_thing 67 = .ok (.iaload, 1) := by decide +kernel
theorem dX4_thing_68 : decode cX4_thing 68 = .ok (.aload_n 0, 1) := by decide +kernel
theorem dX4_thing_69 : decode cX4_thing 69 = .ok (.getfield 9, 3) := by decide +kernel
theorem dX4_thing_72 : decode cX4_thing 72 = .ok (.iload_n 1, 1) := by decide +kernel
theorem dX4_thing_73 : decode cX4_thing 73 = .ok (.invokestatic 51, 3) := by decide +kernel
theorem dX4_thing_76 : decode cX4_thing 76 = .ok (.iconst 1, 1) := by decide +kernel
theorem dX4_thing_77 : decode cX4_thing 77 = .ok (.iadd, 1) := by decide +kernel
theorem dX4_thing_78 : decode cX4_thing 78 = .ok (.iaload, 1) := by decide +kernel
theorem dX4_thing_79 : decode cX4_thing 79 = .ok (.aload_n 0, 1) := by decide +kernel
theorem dX4_thing_80 : decode cX4_thing 80 = .ok (.getfield 9, 3) := by decide +kernel
theorem dX4_thing_83 : decode cX4_thing 83 = .ok (.iconst 2, 1) := by decide +kernel
theorem dX4_thing_84 : decode cX4_thing 84 = .ok (.iaload, 1) := by decide +kernel
theorem dX4_thing_85 : decode cX4_thing 85 = .ok (.iconst 1, 1) := by decide +kernel
theorem dX4_thing_86 : decode cX4_thing 86 = .ok (.iadd, 1) := by decide +kernel
theorem dX4_thing_87 : decode cX4_thing 87 = .ok (.invokestatic 76, 3) := by decide +kernel
theorem dX4_thing_90 : decode cX4_thing 90 = .ok (.goto 9, 3) := by decide +kernel
theorem dX4_thing_93 : decode cX4_thing 93 = .ok (.aload_n 0, 1) := by decide +kernel
theorem dX4_thing_94 : decode cX4_thing 94 = .ok (.bipush (-2), 2) := by decide +kernel
theorem dX4_thing_96 : decode cX4_thing 96 = .ok (.invokevirtual 41, 3) := by decide +kernel
theorem dX4_thing_99 : decode cX4_thing 99 = .ok (.ireturn, 1) := by decide +kernel
set_option maxRecDepth 20000 in
theorem ggX4_wrongBreak_X4_isThing : GoodIn wsX4_wrongBreak wsX4_isThing := goodIn_r _ [6, 1, 7, 8, 5, 9, 16, 17, 18, 19, 20, 21, 22, 23, 24, 25, 26, 27, 28, 29, 30, 31] (by decide +kernel) (by decide +kernel)
set_option maxRecDepth 20000 in
theorem gX4_wrongBreak_X4_isThing : GoodIn wsX4_wrongBreak (wsV RX4 133 RX4 yX4_isThing wsX4_isThing) := goodIn_app (goodIn_of _ (by decide +kernel)) ggX4_wrongBreak_X4_isThing
set_option maxRecDepth 20000 in
theorem ggX4_wrongBreak_X4_isWhole : GoodIn wsX4_wrongBreak wsX4_isWhole := goodIn_r _ [12, 13, 14, 5, 15] (by decide +kernel) (by decide +kernel)
set_option maxRecDepth 20000 in
theorem gX4_wrongBreak_X4_isWhole : GoodIn wsX4_wrongBreak (va_wsS RX4 72 yX4_isWhole wsX4_isWhole) := goodIn_app (goodIn_of _ (by decide +kernel)) ggX4_wrongBreak_X4_isWhole
theorem dX4_wrongBreak_0 : decode cX4_wrongBreak 0 = .ok (.iload_n 2, 1) := by decide +kernel
theorem dX4_wrongBreak_1 : decode cX4_wrongBreak 1 = .ok (.ifCond .eq 11, 3) := by decide +kernel
theorem dX4_wrongBreak_4 : decode cX4_wrongBreak 4 = .ok (.aload_n 0, 1) := by decide +kernel
theorem dX4_wrongBreak_5 : decode cX4_wrongBreak 5 = .ok (.iload_n 1, 1) := by decide +kernel
theorem dX4_wrongBreak_6 : decode cX4_wrongBreak 6 = .ok (.invokevirtual 133, 3) := by decide +kernel
theorem dX4_wrongBreak_9 : decode cX4_wrongBreak 9 = .ok (.ifCond .ne 7, 3) := by decide +kernel
theorem dX4_wrongBreak_12 : decode cX4_wrongBreak 12 = .ok (.iconst (-1), 1) := by decide +kernel
theorem dX4_wrongBreak_13 : decode cX4_wrongBreak 13 = .ok (.goto 20, 3) := by decide +kernel
theorem dX4_wrongBreak_16 : decode cX4_wrongBreak 16 = .ok (.aload_n 0, 1) := by decide +kernel
theorem dX4_wrongBreak_17 : decode cX4_wrongBreak 17 = .ok (.getfield 9, 3) := by decide +kernel
theorem dX4_wrongBreak_20 : decode cX4_wrongBreak 20 = .ok (.iload_n 1, 1) := by decide +kernel
theorem dX4_wrongBreak_21 : decode cX4_wrongBreak 21 = .ok (.invokestatic 72, 3) := by decide +kernel
theorem dX4_wrongBreak_24 : decode cX4_wrongBreak 24 = .ok (.ifCond .eq 7, 3) := by decide +kernel
theorem dX4_wrongBreak_27 : decode cX4_wrongBreak 27 = .ok (.iconst 0, 1) := by decide +kernel
theorem dX4_wrongBreak_28 : decode cX4_wrongBreak 28 = .ok (.goto 5, 3) := by decide +kernel
theorem dX4_wrongBreak_31 : decode cX4_wrongBreak 31 = .ok (.bipush (-3), 2) := by decide +kernel
theorem dX4_wrongBreak_33 : decode cX4_wrongBreak 33 = .ok (.ireturn, 1) := by decide +kernel
set_option maxRecDepth 20000 in
theorem ggX4_breaks_X4_isPerson : GoodIn wsX4_breaks wsX4_isPerson := goodIn_r _ [6, 1, 7, 8, 5, 9, 35, 36, 37, 38, 39, 40, 41, 42, 43, 44, 45, 46, 47, 48, 49, 50] (by decide +kernel) (by decide +kernel)
set_option maxRecDepth 20000 in
theorem gX4_breaks_X4_isPerson : GoodIn wsX4_breaks (wsV RX4 123 RX4 yX4_isPerson wsX4_isPerson) := goodIn_app (goodIn_of _ (by decide +kernel)) ggX4_breaks_X4_isPerson
set_option maxRecDepth 20000 in
theorem ggX4_breaks_X4_wrongBreak : GoodIn wsX4_breaks wsX4_wrongBreak := goodIn_r _ [13, 1, 14, 15, 16, 5, 17, 7, 8, 9, 18, 19, 20, 21, 22, 23, 35, 36, 37, 38, 39, 40, 41, 42, 43, 44, 45, 46, 47, 48, 49, 50] (by decide +kernel) (by decide +kernel)
set_option maxRecDepth 20000 in
theorem gX4_breaks_X4_wrongBreak : GoodIn wsX4_breaks (wsV RX4 146 RX4 yX4_wrongBreak wsX4_wrongBreak) := goodIn_app (goodIn_of _ (by decide +kernel)) ggX4_breaks_X4_wrongBreak
set_option maxRecDepth 20000 in
theorem ggX4_breaks_X4_no : GoodIn wsX4_breaks wsX4_no := goodIn_r _ [27, 28, 35, 36, 37, 38, 39, 40, 41, 42, 43, 44, 45, 46, 47, 48, 49, 50] (by decide +kernel) (by decide +kernel)
set_option maxRecDepth 20000 in
theorem gX4_breaks_X4_no : GoodIn wsX4_breaks (wsV RX4 41 RX4 yX4_no wsX4_no) := goodIn_app (goodIn_of _ (by decide +kernel)) ggX4_breaks_X4_no
set_option maxRecDepth 20000 in
theorem ggX4_breaks_X4_ofT : GoodIn wsX4_breaks wsX4_ofT := goodIn_r _ [23] (by decide +kernel) (by decide +kernel)
set_option maxRecDepth 20000 in
theorem gX4_breaks_X4_ofT : GoodIn wsX4_breaks (va_wsS RX4 51 yX4_ofT wsX4_ofT) := goodIn_app (goodIn_of _ (by decide +kernel)) ggX4_breaks_X4_ofT
set_option maxRecDepth 20000 in
theorem ggX4_breaks_X4_wholeSet : GoodIn wsX4_breaks wsX4_wholeSet := goodIn_r _ [31, 18, 19, 5, 20, 21, 22, 23] (by decide +kernel) (by decide +kernel)
set_option maxRecDepth 20000 in
theorem gX4_breaks_X4_wholeSet : GoodIn wsX4_breaks (va_wsS RX4 94 yX4_wholeSet wsX4_wholeSet) := goodIn_app (goodIn_of _ (by decide +kernel)) ggX4_breaks_X4_wholeSet
set_option maxRecDepth 20000 in
theorem ggX4_breaks_X4_bits : GoodIn wsX4_breaks wsX4_bits := goodIn_r _ [34] (by decide +kernel) (by decide +kernel)
set_option maxRecDepth 20000 in
theorem gX4_breaks_X4_bits : GoodIn wsX4_breaks (va_wsS RX4 98 yX4_bits wsX4_bits) := goodIn_app (goodIn_of _ (by decide +kernel)) ggX4_breaks_X4_bits
theorem dX4_breaks_0 : decode cX4_breaks 0 = .ok (.aload_n 0, 1) := by decide +kernel
theorem dX4_breaks_1 : decode cX4_breaks 1 = .ok (.iload_n 2, 1) := by decide +kernel
theorem dX4_breaks_2 : decode cX4_breaks 2 = .ok (.aload_n 0, 1) := by decide +kernel
theorem dX4_breaks_3 : decode cX4_breaks 3 = .ok (.iload_n 1, 1) := by decide +kernel
theorem dX4_breaks_4 : decode cX4_breaks 4 = .ok (.invokevirtual 123, 3) := by decide +kernel
theorem dX4_breaks_7 : decode cX4_breaks 7 = .ok (.invokevirtual 146, 3) := by decide +kernel
theorem dX4_breaks_10 : decode cX4_breaks 10 = .ok (.istore_n 3, 1) := by decide +kernel
theorem dX4_breaks_11 : decode cX4_breaks 11 = .ok (.iload_n 3, 1) := by decide +kernel
theorem dX4_breaks_12 : decode cX4_breaks 12 = .ok (.ifCond .eq 9, 3) := by decide +kernel
theorem dX4_breaks_15 : decode cX4_breaks 15 = .ok (.aload_n 0, 1) := by decide +kernel
theorem dX4_breaks_16 : decode cX4_breaks 16 = .ok (.iload_n 3, 1) := by decide +kernel
theorem dX4_breaks_17 : decode cX4_breaks 17 = .ok (.invokevirtual 41, 3) := by decide +kernel
theorem dX4_breaks_20 : decode cX4_breaks 20 = .ok (.ireturn, 1) := by decide +kernel
theorem dX4_breaks_21 : decode cX4_breaks 21 = .ok (.aload_n 0, 1) := by decide +kernel
theorem dX4_breaks_22 : decode cX4_breaks 22 = .ok (.getfield 9, 3) := by decide +kernel
theorem dX4_breaks_25 : decode cX4_breaks 25 = .ok (.iload_n 2, 1) := by decide +kernel
theorem dX4_breaks_26 : decode cX4_breaks 26 = .ok (.invokestatic 51, 3) := by decide +kernel
theorem dX4_breaks_29 : decode cX4_breaks 29 = .ok (.iconst 4, 1) := by decide +kernel
theorem dX4_breaks_30 : decode cX4_breaks 30 = .ok (.iadd, 1) := by decide +kernel
theorem dX4_breaks_31 : decode cX4_breaks 31 = .ok (.iload_n 1, 1) := by decide +kernel
theorem dX4_breaks_32 : decode cX4_breaks 32 = .ok (.iastore, 1) := by decide +kernel
theorem dX4_breaks_33 : decode cX4_breaks 33 = .ok (.aload_n 0, 1) := by decide +kernel
theorem dX4_breaks_34 : decode cX4_breaks 34 = .ok (.getfield 9, 3) := by decide +kernel
theorem dX4_breaks_37 : decode cX4_breaks 37 = .ok (.invokestatic 94, 3) := by decide +kernel
theorem dX4_breaks_40 : decode cX4_breaks 40 = .ok (.invokestatic 98, 3) := by decide +kernel
theorem dX4_breaks_43 : decode cX4_breaks 43 = .ok (.ireturn, 1) := by decide +kernel
set_option maxRecDepth 20000 in
theorem ggX4_rusts_X4_wrongBreak : GoodIn wsX4_rusts wsX4_wrongBreak := goodIn_r _ [6, 1, 7, 8, 9, 5, 10, 11, 12, 13, 14, 15, 16, 17, 18, 19, 31, 32, 33, 34, 35, 36, 37, 38, 39, 40, 41, 42, 43, 44, 45, 46] (by decide +kernel) (by decide +kernel)
set_option maxRecDepth 20000 in
theorem gX4_rusts_X4_wrongBreak : GoodIn wsX4_rusts (wsV RX4 146 RX4 yX4_wrongBreak wsX4_wrongBreak) := goodIn_app (goodIn_of _ (by decide +kernel)) ggX4_rusts_X4_wrongBreak
set_option maxRecDepth 20000 in
theorem ggX4_rusts_X4_no : GoodIn wsX4_rusts wsX4_no := goodIn_r _ [23, 24, 31, 32, 33, 34, 35, 36, 37, 38, 39, 40, 41, 42, 43, 44, 45, 46] (by decide +kernel) (by decide +kernel)
set_option maxRecDepth 20000 in
theorem gX4_rusts_X4_no : GoodIn wsX4_rusts (wsV RX4 41 RX4 yX4_no wsX4_no) := goodIn_app (goodIn_of _ (by decide +kernel)) ggX4_rusts_X4_no
set_option maxRecDepth 20000 in
theorem ggX4_rusts_X4_ofT : GoodIn wsX4_rusts wsX4_ofT := goodIn_r _ [19] (by decide +kernel) (by decide +kernel)
set_option maxRecDepth 20000 in
theorem gX4_rusts_X4_ofT : GoodIn wsX4_rusts (va_wsS RX4 51 yX4_ofT wsX4_ofT) := goodIn_app (goodIn_of _ (by decide +kernel)) ggX4_rusts_X4_ofT
set_option maxRecDepth 20000 in
theorem ggX4_rusts_X4_wholeSet : GoodIn wsX4_rusts wsX4_wholeSet := goodIn_r _ [27, 14, 15, 5, 16, 17, 18, 19] (by decide +kernel) (by decide +kernel)
set_option maxRecDepth 20000 in
theorem gX4_rusts_X4_wholeSet : GoodIn wsX4_rusts (va_wsS RX4 94 yX4_wholeSet wsX4_wholeSet) := goodIn_app (goodIn_of _ (by decide +kernel)) ggX4_rusts_X4_wholeSet
set_option maxRecDepth 20000 in
theorem ggX4_rusts_X4_bits : GoodIn wsX4_rusts wsX4_bits := goodIn_r _ [30] (by decide +kernel) (by decide +kernel)
set_option maxRecDepth 20000 in
theorem gX4_rusts_X4_bits : GoodIn wsX4_rusts (va_wsS RX4 98 yX4_bits wsX4_bits) := goodIn_app (goodIn_of _ (by decide +kernel)) ggX4_rusts_X4_bits
theorem dX4_rusts_0 : decode cX4_rusts 0 = .ok (.aload_n 0, 1) := by decide +kernel
theorem dX4_rusts_1 : decode cX4_rusts 1 = .ok (.iload_n 1, 1) := by decide +kernel
theorem dX4_rusts_2 : decode cX4_rusts 2 = .ok (.iconst 1, 1) := by decide +kernel
theorem dX4_rusts_3 : decode cX4_rusts 3 = .ok (.invokevirtual 146, 3) := by decide +kernel
theorem dX4_rusts_6 : decode cX4_rusts 6 = .ok (.istore_n 2, 1) := by decide +kernel
theorem dX4_rusts_7 : decode cX4_rusts 7 = .ok (.iload_n 2, 1) := by decide +kernel
theorem dX4_rusts_8 : decode cX4_rusts 8 = .ok (.ifCond .eq 9, 3) := by decide +kernel
theorem dX4_rusts_11 : decode cX4_rusts 11 = .ok (.aload_n 0, 1) := by decide +kernel
theorem dX4_rusts_12 : decode cX4_rusts 12 = .ok (.iload_n 2, 1) := by decide +kernel
theorem dX4_rusts_13 : decode cX4_rusts 13 = .ok (.invokevirtual 41, 3) := by decide +kernel
theorem dX4_rusts_16 : decode cX4_rusts 16 = .ok (.ireturn, 1) := by decide +kernel
theorem dX4_rusts_17 : decode cX4_rusts 17 = .ok (.aload_n 0, 1) := by decide +kernel
theorem dX4_rusts_18 : decode cX4_rusts 18 = .ok (.getfield 9, 3) := by decide +kernel
theorem dX4_rusts_21 : decode cX4_rusts 21 = .ok (.iload_n 1, 1) := by decide +kernel
theorem dX4_rusts_22 : decode cX4_rusts 22 = .ok (.invokestatic 51, 3) := by decide +kernel
theorem dX4_rusts_25 : decode cX4_rusts 25 = .ok (.iconst 4, 1) := by decide +kernel
theorem dX4_rusts_26 : decode cX4_rusts 26 = .ok (.iadd, 1) := by decide +kernel
theorem dX4_rusts_27 : decode cX4_rusts 27 = .ok (.bipush (-8), 2) := by decide +kernel
theorem dX4_rusts_29 : decode cX4_rusts 29 = .ok (.iastore, 1) := by decide +kernel
theorem dX4_rusts_30 : decode cX4_rusts 30 = .ok (.aload_n 0, 1) := by decide +kernel
theorem dX4_rusts_31 : decode cX4_rusts 31 = .ok (.getfield 9, 3) := by decide +kernel
theorem dX4_rusts_34 : decode cX4_rusts 34 = .ok (.invokestatic 94, 3) := by decide +kernel
theorem dX4_rusts_37 : decode cX4_rusts 37 = .ok (.invokestatic 98, 3) := by decide +kernel
theorem dX4_rusts_40 : decode cX4_rusts 40 = .ok (.ireturn, 1) := by decide +kernel
set_option maxRecDepth 20000 in
theorem ggX4_mendersOf_X4_isAble : GoodIn wsX4_mendersOf wsX4_isAble := goodIn_r _ [5, 6, 7, 4, 8, 9, 10, 11, 12, 13, 14, 15, 16, 17] (by decide +kernel) (by decide +kernel)
set_option maxRecDepth 20000 in
theorem gX4_mendersOf_X4_isAble : GoodIn wsX4_mendersOf (va_wsS RX4 65 yX4_isAble wsX4_isAble) := goodIn_app (goodIn_of _ (by decide +kernel)) ggX4_mendersOf_X4_isAble
theorem dX4_mendersOf_0 : decode cX4_mendersOf 0 = .ok (.iconst 0, 1) := by decide +kernel
theorem dX4_mendersOf_1 : decode cX4_mendersOf 1 = .ok (.istore_n 2, 1) := by decide +kernel
theorem dX4_mendersOf_2 : decode cX4_mendersOf 2 = .ok (.iconst 0, 1) := by decide +kernel
theorem dX4_mendersOf_3 : decode cX4_mendersOf 3 = .ok (.istore_n 3, 1) := by decide +kernel
theorem dX4_mendersOf_4 : decode cX4_mendersOf 4 = .ok (.iload_n 3, 1) := by decide +kernel
theorem dX4_mendersOf_5 : decode cX4_mendersOf 5 = .ok (.aload_n 0, 1) := by decide +kernel
theorem dX4_mendersOf_6 : decode cX4_mendersOf 6 = .ok (.getfield 9, 3) := by decide +kernel
theorem dX4_mendersOf_9 : decode cX4_mendersOf 9 = .ok (.iconst 0, 1) := by decide +kernel
theorem dX4_mendersOf_10 : decode cX4_mendersOf 10 = .ok (.iaload, 1) := by decide +kernel
theorem dX4_mendersOf_11 : decode cX4_mendersOf 11 = .ok (.if_icmp .ge 31, 3) := by decide +kernel
theorem dX4_mendersOf_14 : decode cX4_mendersOf 14 = .ok (.iload_n 2, 1) := by decide +kernel
theorem dX4_mendersOf_15 : decode cX4_mendersOf 15 = .ok (.aload_n 0, 1) := by decide +kernel
theorem dX4_mendersOf_16 : decode cX4_mendersOf 16 = .ok (.getfield 9, 3) := by decide +kernel
theorem dX4_mendersOf_19 : decode cX4_mendersOf 19 = .ok (.iload_n 3, 1) := by decide +kernel
theorem dX4_mendersOf_20 : decode cX4_mendersOf 20 = .ok (.iload_n 1, 1) := by decide +kernel
theorem dX4_mendersOf_21 : decode cX4_mendersOf 21 = .ok (.invokestatic 65, 3) := by decide +kernel
theorem dX4_mendersOf_24 : decode cX4_mendersOf 24 = .ok (.ifCond .eq 9, 3) := by decide +kernel
theorem dX4_mendersOf_27 : decode cX4_mendersOf 27 = .ok (.iconst 1, 1) := by decide +kernel
theorem dX4_mendersOf_28 : decode cX4_mendersOf 28 = .ok (.iload_n 3, 1) := by decide +kernel
theorem dX4_mendersOf_29 : decode cX4_mendersOf 29 = .ok (.ishl, 1) := by decide +kernel
theorem dX4_mendersOf_30 : decode cX4_mendersOf 30 = .ok (.goto 4, 3) := by decide +kernel
theorem dX4_mendersOf_33 : decode cX4_mendersOf 33 = .ok (.iconst 0, 1) := by decide +kernel
theorem dX4_mendersOf_34 : decode cX4_mendersOf 34 = .ok (.ior, 1) := by decide +kernel
theorem dX4_mendersOf_35 : decode cX4_mendersOf 35 = .ok (.istore_n 2, 1) := by decide +kernel
theorem dX4_mendersOf_36 : decode cX4_mendersOf 36 = .ok (.iinc 3 1, 3) := by decide +kernel
theorem dX4_mendersOf_39 : decode cX4_mendersOf 39 = .ok (.goto (-35), 3) := by decide +kernel
theorem dX4_mendersOf_42 : decode cX4_mendersOf 42 = .ok (.iload_n 2, 1) := by decide +kernel
theorem dX4_mendersOf_43 : decode cX4_mendersOf 43 = .ok (.ireturn, 1) := by decide +kernel
set_option maxRecDepth 20000 in
theorem ggX4_says_X4_isPerson : GoodIn wsX4_says wsX4_isPerson := goodIn_r _ [6, 1, 7, 8, 5, 9, 41, 42, 43, 44, 45, 46, 47, 48, 49, 50, 51, 52, 53, 54, 55, 56] (by decide +kernel) (by decide +kernel)
set_option maxRecDepth 20000 in
theorem gX4_says_X4_isPerson : GoodIn wsX4_says (wsV RX4 123 RX4 yX4_isPerson wsX4_isPerson) := goodIn_app (goodIn_of _ (by decide +kernel)) ggX4_says_X4_isPerson
set_option maxRecDepth 20000 in
theorem ggX4_says_X4_isThing : GoodIn wsX4_says wsX4_isThing := goodIn_r _ [13, 1, 7, 8, 5, 9, 41, 42, 43, 44, 45, 46, 47, 48, 49, 50, 51, 52, 53, 54, 55, 56] (by decide +kernel) (by decide +kernel)
set_option maxRecDepth 20000 in
theorem gX4_says_X4_isThing : GoodIn wsX4_says (wsV RX4 133 RX4 yX4_isThing wsX4_isThing) := goodIn_app (goodIn_of _ (by decide +kernel)) ggX4_says_X4_isThing
set_option maxRecDepth 20000 in
theorem ggX4_says_X4_no : GoodIn wsX4_says wsX4_no := goodIn_r _ [17, 18, 41, 42, 43, 44, 45, 46, 47, 48, 49, 50, 51, 52, 53, 54, 55, 56] (by decide +kernel) (by decide +kernel)
set_option maxRecDepth 20000 in
theorem gX4_says_X4_no : GoodIn wsX4_says (wsV RX4 41 RX4 yX4_no wsX4_no) := goodIn_app (goodIn_of _ (by decide +kernel)) ggX4_says_X4_no
set_option maxRecDepth 20000 in
theorem ggX4_says_X4_ofT : GoodIn wsX4_says wsX4_ofT := goodIn_r _ [21] (by decide +kernel) (by decide +kernel)
set_option maxRecDepth 20000 in
theorem gX4_says_X4_ofT : GoodIn wsX4_says (va_wsS RX4 51 yX4_ofT wsX4_ofT) := goodIn_app (goodIn_of _ (by decide +kernel)) ggX4_says_X4_ofT
set_option maxRecDepth 20000 in
theorem ggX4_says_X4_mendersOf : GoodIn wsX4_says wsX4_mendersOf := goodIn_r _ [25, 1, 26, 27, 5, 28, 29, 30, 31, 32, 33, 34, 19, 20, 21, 35, 36, 37, 41, 42, 43, 44, 45, 46, 47, 48, 49, 50, 51, 52, 53, 54, 55, 56] (by decide +kernel) (by decide +kernel)
set_option maxRecDepth 20000 in
theorem gX4_says_X4_mendersOf : GoodIn wsX4_says (wsV RX4 150 RX4 yX4_mendersOf wsX4_mendersOf) := goodIn_app (goodIn_of _ (by decide +kernel)) ggX4_says_X4_mendersOf
set_option maxRecDepth 20000 in
theorem ggX4_says_X4_bits : GoodIn wsX4_says wsX4_bits := goodIn_r _ [40] (by decide +kernel) (by decide +kernel)
set_option maxRecDepth 20000 in
theorem gX4_says_X4_bits : GoodIn wsX4_says (va_wsS RX4 98 yX4_bits wsX4_bits) := goodIn_app (goodIn_of _ (by decide +kernel)) ggX4_says_X4_bits
theorem dX4_says_0 : decode cX4_says 0 = .ok (.aload_n 0, 1) := by decide +kernel
theorem dX4_says_1 : decode cX4_says 1 = .ok (.iload_n 1, 1) := by decide +kernel
theorem dX4_says_2 : decode cX4_says 2 = .ok (.invokevirtual 123, 3) := by decide +kernel
theorem dX4_says_5 : decode cX4_says 5 = .ok (.ifCond .eq 11, 3) := by decide +kernel
theorem dX4_says_8 : decode cX4_says 8 = .ok (.aload_n 0, 1) := by decide +kernel
theorem dX4_says_9 : decode cX4_says 9 = .ok (.iload_n 2, 1) := by decide +kernel
theorem dX4_says_10 : decode cX4_says 10 = .ok (.invokevirtual 133, 3) := by decide +kernel
theorem dX4_says_13 : decode cX4_says 13 = .ok (.ifCond .ne 9, 3) := by decide +kernel
theorem dX4_says_16 : decode cX4_says 16 = .ok (.aload_n 0, 1) := by decide +kernel
theorem dX4_says_17 : decode cX4_says 17 = .ok (.iconst (-1), 1) := by decide +kernel
theorem dX4_says_18 : decode cX4_says 18 = .ok (.invokevirtual 41, 3) := by decide +kernel
theorem dX4_says_21 : decode cX4_says 21 = .ok (.ireturn, 1) := by decide +kernel
theorem dX4_says_22 : decode cX4_says 22 = .ok (.aload_n 0, 1) := by decide +kernel
theorem dX4_says_23 : decode cX4_says 23 = .ok (.getfield 9, 3) := by decide +kernel
theorem dX4_says_26 : decode cX4_says 26 = .ok (.iload_n 2, 1) := by decide +kernel
theorem dX4_says_27 : decode cX4_says 27 = .ok (.invokestatic 51, 3) := by decide +kernel
theorem dX4_says_30 : decode cX4_says 30 = .ok (.iconst 4, 1) := by decide +kernel
theorem dX4_says_31 : decode cX4_says 31 = .ok (.iadd, 1) := by decide +kernel
theorem dX4_says_32 : decode cX4_says 32 = .ok (.iaload, 1) := by decide +kernel
theorem dX4_says_33 : decode cX4_says 33 = .ok (.bipush (-8), 2) := by decide +kernel
theorem dX4_says_35 : decode cX4_says 35 = .ok (.if_icmp .eq 10, 3) := by decide +kernel
theorem dX4_says_38 : decode cX4_says 38 = .ok (.aload_n 0, 1) := by decide +kernel
theorem dX4_says_39 : decode cX4_says 39 = .ok (.bipush (-3), 2) := by decide +kernel
theorem dX4_says_41 : decode cX4_says 41 = .ok (.invokevirtual 41, 3) := by decide +kernel
theorem dX4_says_44 : decode cX4_says 44 = .ok (.ireturn, 1) := by decide +kernel
theorem dX4_says_45 : decode cX4_says 45 = .ok (.aload_n 0, 1) := by decide +kernel
theorem dX4_says_46 : decode cX4_says 46 = .ok (.getfield 9, 3) := by decide +kernel
theorem dX4_says_49 : decode cX4_says 49 = .ok (.iload_n 2, 1) := by decide +kernel
theorem dX4_says_50 : decode cX4_says 50 = .ok (.invokestatic 51, 3) := by decide +kernel
theorem dX4_says_53 : decode cX4_says 53 = .ok (.iconst 4, 1) := by decide +kernel
theorem dX4_says_54 : decode cX4_says 54 = .ok (.iadd, 1) := by decide +kernel
theorem dX4_says_55 : decode cX4_says 55 = .ok (.iload_n 1, 1) := by decide +kernel
theorem dX4_says_56 : decode cX4_says 56 = .ok (.iastore, 1) := by decide +kernel
theorem dX4_says_57 : decode cX4_says 57 = .ok (.aload_n 0, 1) := by decide +kernel
theorem dX4_says_58 : decode cX4_says 58 = .ok (.iload_n 2, 1) := by decide +kernel
theorem dX4_says_59 : decode cX4_says 59 = .ok (.invokevirtual 150, 3) := by decide +kernel
theorem dX4_says_62 : decode cX4_says 62 = .ok (.iconst 1, 1) := by decide +kernel
theorem dX4_says_63 : decode cX4_says 63 = .ok (.iload_n 1, 1) := by decide +kernel
theorem dX4_says_64 : decode cX4_says 64 = .ok (.ishl, 1) := by decide +kernel
theorem dX4_says_65 : decode cX4_says 65 = .ok (.iconst (-1), 1) := by decide +kernel
theorem dX4_says_66 : decode cX4_says 66 = .ok (.ixor, 1) := by decide +kernel
theorem dX4_says_67 : decode cX4_says 67 = .ok (.iand, 1) := by decide +kernel
theorem dX4_says_68 : decode cX4_says 68 = .ok (.invokestatic 98, 3) := by decide +kernel
theorem dX4_says_71 : decode cX4_says 71 = .ok (.ireturn, 1) := by decide +kernel
set_option maxRecDepth 20000 in
theorem ggX4_mends_X4_isPerson : GoodIn wsX4_mends wsX4_isPerson := goodIn_r _ [6, 1, 7, 8, 5, 9, 49, 50, 51, 52, 53, 54, 55, 56, 57, 58, 59, 60, 61, 62, 63, 64] (by decide +kernel) (by decide +kernel)
set_option maxRecDepth 20000 in
theorem gX4_mends_X4_isPerson : GoodIn wsX4_mends (wsV RX4 123 RX4 yX4_isPerson wsX4_isPerson) := goodIn_app (goodIn_of _ (by decide +kernel)) ggX4_mends_X4_isPerson
set_option maxRecDepth 20000 in
theorem ggX4_mends_X4_isThing : GoodIn wsX4_mends wsX4_isThing := goodIn_r _ [13, 1, 7, 8, 5, 9, 49, 50, 51, 52, 53, 54, 55, 56, 57, 58, 59, 60, 61, 62, 63, 64] (by decide +kernel) (by decide +kernel)
set_option maxRecDepth 20000 in
theorem gX4_mends_X4_isThing : GoodIn wsX4_mends (wsV RX4 133 RX4 yX4_isThing wsX4_isThing) := goodIn_app (goodIn_of _ (by decide +kernel)) ggX4_mends_X4_isThing
set_option maxRecDepth 20000 in
theorem ggX4_mends_X4_no : GoodIn wsX4_mends wsX4_no := goodIn_r _ [17, 18, 49, 50, 51, 52, 53, 54, 55, 56, 57, 58, 59, 60, 61, 62, 63, 64] (by decide +kernel) (by decide +kernel)
set_option maxRecDepth 20000 in
theorem gX4_mends_X4_no : GoodIn wsX4_mends (wsV RX4 41 RX4 yX4_no wsX4_no) := goodIn_app (goodIn_of _ (by decide +kernel)) ggX4_mends_X4_no
set_option maxRecDepth 20000 in
theorem ggX4_mends_X4_mayMend : GoodIn wsX4_mends wsX4_mayMend := goodIn_r _ [21, 22, 23, 5, 24, 25, 26, 27, 28, 29, 30, 31, 32, 33, 34, 35, 36] (by decide +kernel) (by decide +kernel)
set_option maxRecDepth 20000 in
theorem gX4_mends_X4_mayMend : GoodIn wsX4_mends (va_wsS RX4 69 yX4_mayMend wsX4_mayMend) := goodIn_app (goodIn_of _ (by decide +kernel)) ggX4_mends_X4_mayMend
set_option maxRecDepth 20000 in
theorem ggX4_mends_X4_mendsIn : GoodIn wsX4_mends wsX4_mendsIn := goodIn_r _ [39, 22, 23, 5, 24, 28, 29, 30, 34, 35, 36] (by decide +kernel) (by decide +kernel)
set_option maxRecDepth 20000 in
theorem gX4_mends_X4_mendsIn : GoodIn wsX4_mends (va_wsS RX4 83 yX4_mendsIn wsX4_mendsIn) := goodIn_app (goodIn_of _ (by decide +kernel)) ggX4_mends_X4_mendsIn
set_option maxRecDepth 20000 in
theorem ggX4_mends_X4_wholeSet : GoodIn wsX4_mends wsX4_wholeSet := goodIn_r _ [42, 43, 44, 5, 45, 22, 23, 24] (by decide +kernel) (by decide +kernel)
set_option maxRecDepth 20000 in
theorem gX4_mends_X4_wholeSet : GoodIn wsX4_mends (va_wsS RX4 94 yX4_wholeSet wsX4_wholeSet) := goodIn_app (goodIn_of _ (by decide +kernel)) ggX4_mends_X4_wholeSet
set_option maxRecDepth 20000 in
theorem ggX4_mends_X4_bits : GoodIn wsX4_mends wsX4_bits := goodIn_r _ [48] (by decide +kernel) (by decide +kernel)
set_option maxRecDepth 20000 in
theorem gX4_mends_X4_bits : GoodIn wsX4_mends (va_wsS RX4 98 yX4_bits wsX4_bits) := goodIn_app (goodIn_of _ (by decide +kernel)) ggX4_mends_X4_bits
theorem dX4_mends_0 : decode cX4_mends 0 = .ok (.aload_n 0, 1) := by decide +kernel
theorem dX4_mends_1 : decode cX4_mends 1 = .ok (.iload_n 1, 1) := by decide +kernel
theorem dX4_mends_2 : decode cX4_mends 2 = .ok (.invokevirtual 123, 3) := by decide +kernel
theorem dX4_mends_5 : decode cX4_mends 5 = .ok (.ifCond .eq 11, 3) := by decide +kernel
theorem dX4_mends_8 : decode cX4_mends 8 = .ok (.aload_n 0, 1) := by decide +kernel
theorem dX4_mends_9 : decode cX4_mends 9 = .ok (.iload_n 2, 1) := by decide +kernel
theorem dX4_mends_10 : decode cX4_mends 10 = .ok (.invokevirtual 133, 3) := by decide +kernel
theorem dX4_mends_13 : decode cX4_mends 13 = .ok (.ifCond .ne 9, 3) := by decide +kernel
theorem dX4_mends_16 : decode cX4_mends 16 = .ok (.aload_n 0, 1) := by decide +kernel
theorem dX4_mends_17 : decode cX4_mends 17 = .ok (.iconst (-1), 1) := by decide +kernel
theorem dX4_mends_18 : decode cX4_mends 18 = .ok (.invokevirtual 41, 3) := by decide +kernel
theorem dX4_mends_21 : decode cX4_mends 21 = .ok (.ireturn, 1) := by decide +kernel
theorem dX4_mends_22 : decode cX4_mends 22 = .ok (.aload_n 0, 1) := by decide +kernel
theorem dX4_mends_23 : decode cX4_mends 23 = .ok (.getfield 9, 3) := by decide +kernel
theorem dX4_mends_26 : decode cX4_mends 26 = .ok (.iload_n 1, 1) := by decide +kernel
theorem dX4_mends_27 : decode cX4_mends 27 = .ok (.iload_n 2, 1) := by decide +kernel
theorem dX4_mends_28 : decode cX4_mends 28 = .ok (.invokestatic 69, 3) := by decide +kernel
theorem dX4_mends_31 : decode cX4_mends 31 = .ok (.ifCond .ne 10, 3) := by decide +kernel
theorem dX4_mends_34 : decode cX4_mends 34 = .ok (.aload_n 0, 1) := by decide +kernel
theorem dX4_mends_35 : decode cX4_mends 35 = .ok (.bipush (-3), 2) := by decide +kernel
theorem dX4_mends_37 : decode cX4_mends 37 = .ok (.invokevirtual 41, 3) := by decide +kernel
theorem dX4_mends_40 : decode cX4_mends 40 = .ok (.ireturn, 1) := by decide +kernel
theorem dX4_mends_41 : decode cX4_mends 41 = .ok (.aload_n 0, 1) := by decide +kernel
theorem dX4_mends_42 : decode cX4_mends 42 = .ok (.getfield 9, 3) := by decide +kernel
theorem dX4_mends_45 : decode cX4_mends 45 = .ok (.iload_n 1, 1) := by decide +kernel
theorem dX4_mends_46 : decode cX4_mends 46 = .ok (.iload_n 2, 1) := by decide +kernel
theorem dX4_mends_47 : decode cX4_mends 47 = .ok (.invokestatic 83, 3) := by decide +kernel
theorem dX4_mends_50 : decode cX4_mends 50 = .ok (.aload_n 0, 1) := by decide +kernel
theorem dX4_mends_51 : decode cX4_mends 51 = .ok (.getfield 9, 3) := by decide +kernel
theorem dX4_mends_54 : decode cX4_mends 54 = .ok (.invokestatic 94, 3) := by decide +kernel
theorem dX4_mends_57 : decode cX4_mends 57 = .ok (.invokestatic 98, 3) := by decide +kernel
theorem dX4_mends_60 : decode cX4_mends 60 = .ok (.ireturn, 1) := by decide +kernel
theorem dX4_wrongBy_0 : decode cX4_wrongBy 0 = .ok (.iload_n 0, 1) := by decide +kernel
theorem dX4_wrongBy_1 : decode cX4_wrongBy 1 = .ok (.ifCond .ge 8, 3) := by decide +kernel
theorem dX4_wrongBy_4 : decode cX4_wrongBy 4 = .ok (.bipush (-4), 2) := by decide +kernel
theorem dX4_wrongBy_6 : decode cX4_wrongBy 6 = .ok (.goto 14, 3) := by decide +kernel
theorem dX4_wrongBy_9 : decode cX4_wrongBy 9 = .ok (.iload_n 0, 1) := by decide +kernel
theorem dX4_wrongBy_10 : decode cX4_wrongBy 10 = .ok (.iload_n 1, 1) := by decide +kernel
theorem dX4_wrongBy_11 : decode cX4_wrongBy 11 = .ok (.if_icmp .le 8, 3) := by decide +kernel
theorem dX4_wrongBy_14 : decode cX4_wrongBy 14 = .ok (.bipush (-6), 2) := by decide +kernel
theorem dX4_wrongBy_16 : decode cX4_wrongBy 16 = .ok (.goto 4, 3) := by decide +kernel
theorem dX4_wrongBy_19 : decode cX4_wrongBy 19 = .ok (.iconst 0, 1) := by decide +kernel
theorem dX4_wrongBy_20 : decode cX4_wrongBy 20 = .ok (.ireturn, 1) := by decide +kernel
set_option maxRecDepth 20000 in
theorem ggX4_wears_X4_isThing : GoodIn wsX4_wears wsX4_isThing := goodIn_r _ [6, 1, 7, 8, 5, 9, 21, 22, 23, 24, 25, 26, 27, 28, 29, 30, 31, 32, 33, 34, 35, 36] (by decide +kernel) (by decide +kernel)
set_option maxRecDepth 20000 in
theorem gX4_wears_X4_isThing : GoodIn wsX4_wears (wsV RX4 133 RX4 yX4_isThing wsX4_isThing) := goodIn_app (goodIn_of _ (by decide +kernel)) ggX4_wears_X4_isThing
set_option maxRecDepth 20000 in
theorem ggX4_wears_X4_wrongBy : GoodIn wsX4_wears wsX4_wrongBy := goodIn_r _ [12] (by decide +kernel) (by decide +kernel)
set_option maxRecDepth 20000 in
theorem gX4_wears_X4_wrongBy : GoodIn wsX4_wears (va_wsS RX4 153 yX4_wrongBy wsX4_wrongBy) := goodIn_app (goodIn_of _ (by decide +kernel)) ggX4_wears_X4_wrongBy
set_option maxRecDepth 20000 in
theorem ggX4_wears_X4_no : GoodIn wsX4_wears wsX4_no := goodIn_r _ [16, 17, 21, 22, 23, 24, 25, 26, 27, 28, 29, 30, 31, 32, 33, 34, 35, 36] (by decide +kernel) (by decide +kernel)
set_option maxRecDepth 20000 in
theorem gX4_wears_X4_no : GoodIn wsX4_wears (wsV RX4 41 RX4 yX4_no wsX4_no) := goodIn_app (goodIn_of _ (by decide +kernel)) ggX4_wears_X4_no
set_option maxRecDepth 20000 in
theorem ggX4_wears_X4_ofT : GoodIn wsX4_wears wsX4_ofT := goodIn_r _ [20] (by decide +kernel) (by decide +kernel)
set_option maxRecDepth 20000 in
theorem gX4_wears_X4_ofT : GoodIn wsX4_wears (va_wsS RX4 51 yX4_ofT wsX4_ofT) := goodIn_app (goodIn_of _ (by decide +kernel)) ggX4_wears_X4_ofT
theorem dX4_wears_0 : decode cX4_wears 0 = .ok (.aload_n 0, 1) := by decide +kernel
theorem dX4_wears_1 : decode cX4_wears 1 = .ok (.iload_n 1, 1) := by decide +kernel
theorem dX4_wears_2 : decode cX4_wears 2 = .ok (.invokevirtual 133, 3) := by decide +kernel
theorem dX4_wears_5 : decode cX4_wears 5 = .ok (.ifCond .eq 12, 3) := by decide +kernel
theorem dX4_wears_8 : decode cX4_wears 8 = .ok (.iload_n 2, 1) := by decide +kernel
theorem dX4_wears_9 : decode cX4_wears 9 = .ok (.bipush 9, 2) := by decide +kernel
theorem dX4_wears_11 : decode cX4_wears 11 = .ok (.invokestatic 153, 3) := by decide +kernel
theorem dX4_wears_14 : decode cX4_wears 14 = .ok (.goto 4, 3) := by decide +kernel
theorem dX4_wears_17 : decode cX4_wears 17 = .ok (.iconst (-1), 1) := by decide +kernel
theorem dX4_wears_18 : decode cX4_wears 18 = .ok (.istore_n 3, 1) := by decide +kernel
theorem dX4_wears_19 : decode cX4_wears 19 = .ok (.iload_n 3, 1) := by decide +kernel
theorem dX4_wears_20 : decode cX4_wears 20 = .ok (.ifCond .eq 9, 3) := by decide +kernel
theorem dX4_wears_23 : decode cX4_wears 23 = .ok (.aload_n 0, 1) := by decide +kernel
theorem dX4_wears_24 : decode cX4_wears 24 = .ok (.iload_n 3, 1) := by decide +kernel
theorem dX4_wears_25 : decode cX4_wears 25 = .ok (.invokevirtual 41, 3) := by decide +kernel
theorem dX4_wears_28 : decode cX4_wears 28 = .ok (.ireturn, 1) := by decide +kernel
theorem dX4_wears_29 : decode cX4_wears 29 = .ok (.aload_n 0, 1) := by decide +kernel
theorem dX4_wears_30 : decode cX4_wears 30 = .ok (.getfield 9, 3) := by decide +kernel
theorem dX4_wears_33 : decode cX4_wears 33 = .ok (.iload_n 1, 1) := by decide +kernel
theorem dX4_wears_34 : decode cX4_wears 34 = .ok (.invokestatic 51, 3) := by decide +kernel
theorem dX4_wears_37 : decode cX4_wears 37 = .ok (.iconst 3, 1) := by decide +kernel
theorem dX4_wears_38 : decode cX4_wears 38 = .ok (.iadd, 1) := by decide +kernel
theorem dX4_wears_39 : decode cX4_wears 39 = .ok (.iaload, 1) := by decide +kernel
theorem dX4_wears_40 : decode cX4_wears 40 = .ok (.istore 4, 2) := by decide +kernel
theorem dX4_wears_42 : decode cX4_wears 42 = .ok (.aload_n 0, 1) := by decide +kernel
theorem dX4_wears_43 : decode cX4_wears 43 = .ok (.getfield 9, 3) := by decide +kernel
theorem dX4_wears_46 : decode cX4_wears 46 = .ok (.iload_n 1, 1) := by decide +kernel
theorem dX4_wears_47 : decode cX4_wears 47 = .ok (.invokestatic 51, 3) := by decide +kernel
theorem dX4_wears_50 : decode cX4_wears 50 = .ok (.iconst 3, 1) := by decide +kernel
theorem dX4_wears_51 : decode cX4_wears 51 = .ok (.iadd, 1) := by decide +kernel
theorem dX4_wears_52 : decode cX4_wears 52 = .ok (.iload_n 2, 1) := by decide +kernel
theorem dX4_wears_53 : decode cX4_wears 53 = .ok (.iastore, 1) := by decide +kernel
theorem dX4_wears_54 : decode cX4_wears 54 = .ok (.iload 4, 2) := by decide +kernel
theorem dX4_wears_56 : decode cX4_wears 56 = .ok (.ireturn, 1) := by decide +kernel
set_option maxRecDepth 20000 in
theorem ggX4_skill_X4_isPerson : GoodIn wsX4_skill wsX4_isPerson := goodIn_r _ [6, 1, 7, 8, 5, 9, 21, 22, 23, 24, 25, 26, 27, 28, 29, 30, 31, 32, 33, 34, 35, 36] (by decide +kernel) (by decide +kernel)
set_option maxRecDepth 20000 in
theorem gX4_skill_X4_isPerson : GoodIn wsX4_skill (wsV RX4 123 RX4 yX4_isPerson wsX4_isPerson) := goodIn_app (goodIn_of _ (by decide +kernel)) ggX4_skill_X4_isPerson
set_option maxRecDepth 20000 in
theorem ggX4_skill_X4_wrongBy : GoodIn wsX4_skill wsX4_wrongBy := goodIn_r _ [12] (by decide +kernel) (by decide +kernel)
set_option maxRecDepth 20000 in
theorem gX4_skill_X4_wrongBy : GoodIn wsX4_skill (va_wsS RX4 153 yX4_wrongBy wsX4_wrongBy) := goodIn_app (goodIn_of _ (by decide +kernel)) ggX4_skill_X4_wrongBy
set_option maxRecDepth 20000 in
theorem ggX4_skill_X4_no : GoodIn wsX4_skill wsX4_no := goodIn_r _ [16, 17, 21, 22, 23, 24, 25, 26, 27, 28, 29, 30, 31, 32, 33, 34, 35, 36] (by decide +kernel) (by decide +kernel)
set_option maxRecDepth 20000 in
theorem gX4_skill_X4_no : GoodIn wsX4_skill (wsV RX4 41 RX4 yX4_no wsX4_no) := goodIn_app (goodIn_of _ (by decide +kernel)) ggX4_skill_X4_no
set_option maxRecDepth 20000 in
theorem ggX4_skill_X4_ofP : GoodIn wsX4_skill wsX4_ofP := goodIn_r _ [20] (by decide +kernel) (by decide +kernel)
set_option maxRecDepth 20000 in
theorem gX4_skill_X4_ofP : GoodIn wsX4_skill (va_wsS RX4 58 yX4_ofP wsX4_ofP) := goodIn_app (goodIn_of _ (by decide +kernel)) ggX4_skill_X4_ofP
theorem dX4_skill_0 : decode cX4_skill 0 = .ok (.aload_n 0, 1) := by decide +kernel
theorem dX4_skill_1 : decode cX4_skill 1 = .ok (.iload_n 1, 1) := by decide +kernel
theorem dX4_skill_2 : decode cX4_skill 2 = .ok (.invokevirtual 123, 3) := by decide +kernel
theorem dX4_skill_5 : decode cX4_skill 5 = .ok (.ifCond .eq 12, 3) := by decide +kernel
theorem dX4_skill_8 : decode cX4_skill 8 = .ok (.iload_n 2, 1) := by decide +kernel
theorem dX4_skill_9 : decode cX4_skill 9 = .ok (.bipush 9, 2) := by decide +kernel
theorem dX4_skill_11 : decode cX4_skill 11 = .ok (.invokestatic 153, 3) := by decide +kernel
theorem dX4_skill_14 : decode cX4_skill 14 = .ok (.goto 4, 3) := by decide +kernel
theorem dX4_skill_17 : decode cX4_skill 17 = .ok (.iconst (-1), 1) := by decide +kernel
theorem dX4_skill_18 : decode cX4_skill 18 = .ok (.istore_n 3, 1) := by decide +kernel
theorem dX4_skill_19 : decode cX4_skill 19 = .ok (.iload_n 3, 1) := by decide +kernel
theorem dX4_skill_20 : decode cX4_skill 20 = .ok (.ifCond .eq 9, 3) := by decide +kernel
theorem dX4_skill_23 : decode cX4_skill 23 = .ok (.aload_n 0, 1) := by decide +kernel
theorem dX4_skill_24 : decode cX4_skill 24 = .ok (.iload_n 3, 1) := by decide +kernel
theorem dX4_skill_25 : decode cX4_skill 25 = .ok (.invokevirtual 41, 3) := by decide +kernel
theorem dX4_skill_28 : decode cX4_skill 28 = .ok (.ireturn, 1) := by decide +kernel
theorem dX4_skill_29 : decode cX4_skill 29 = .ok (.aload_n 0, 1) := by decide +kernel
theorem dX4_skill_30 : decode cX4_skill 30 = .ok (.getfield 9, 3) := by decide +kernel
theorem dX4_skill_33 : decode cX4_skill 33 = .ok (.iload_n 1, 1) := by decide +kernel
theorem dX4_skill_34 : decode cX4_skill 34 = .ok (.invokestatic 58, 3) := by decide +kernel
theorem dX4_skill_37 : decode cX4_skill 37 = .ok (.iconst 0, 1) := by decide +kernel
theorem dX4_skill_38 : decode cX4_skill 38 = .ok (.iadd, 1) := by decide +kernel
theorem dX4_skill_39 : decode cX4_skill 39 = .ok (.iaload, 1) := by decide +kernel
theorem dX4_skill_40 : decode cX4_skill 40 = .ok (.istore 4, 2) := by decide +kernel
theorem dX4_skill_42 : decode cX4_skill 42 = .ok (.aload_n 0, 1) := by decide +kernel
theorem dX4_skill_43 : decode cX4_skill 43 = .ok (.getfield 9, 3) := by decide +kernel
theorem dX4_skill_46 : decode cX4_skill 46 = .ok (.iload_n 1, 1) := by decide +kernel
theorem dX4_skill_47 : decode cX4_skill 47 = .ok (.invokestatic 58, 3) := by decide +kernel
theorem dX4_skill_50 : decode cX4_skill 50 = .ok (.iconst 0, 1) := by decide +kernel
theorem dX4_skill_51 : decode cX4_skill 51 = .ok (.iadd, 1) := by decide +kernel
theorem dX4_skill_52 : decode cX4_skill 52 = .ok (.iload_n 2, 1) := by decide +kernel
theorem dX4_skill_53 : decode cX4_skill 53 = .ok (.iastore, 1) := by decide +kernel
theorem dX4_skill_54 : decode cX4_skill 54 = .ok (.iload 4, 2) := by decide +kernel
theorem dX4_skill_56 : decode cX4_skill 56 = .ok (.ireturn, 1) := by decide +kernel
set_option maxRecDepth 20000 in
theorem ggX4_turn_X4_isThing : GoodIn wsX4_turn wsX4_isThing := goodIn_r _ [6, 1, 7, 8, 5, 9, 21, 22, 23, 24, 25, 26, 27, 28, 29, 30, 31, 32, 33, 34, 35, 36] (by decide +kernel) (by decide +kernel)
set_option maxRecDepth 20000 in
theorem gX4_turn_X4_isThing : GoodIn wsX4_turn (wsV RX4 133 RX4 yX4_isThing wsX4_isThing) := goodIn_app (goodIn_of _ (by decide +kernel)) ggX4_turn_X4_isThing
set_option maxRecDepth 20000 in
theorem ggX4_turn_X4_isIn : GoodIn wsX4_turn wsX4_isIn := goodIn_r _ [9] (by decide +kernel) (by decide +kernel)
set_option maxRecDepth 20000 in
theorem gX4_turn_X4_isIn : GoodIn wsX4_turn (va_wsS RX4 47 yX4_isIn wsX4_isIn) := goodIn_app (goodIn_of _ (by decide +kernel)) ggX4_turn_X4_isIn
set_option maxRecDepth 20000 in
theorem ggX4_turn_X4_wrongBy : GoodIn wsX4_turn wsX4_wrongBy := goodIn_r _ [12] (by decide +kernel) (by decide +kernel)
set_option maxRecDepth 20000 in
theorem gX4_turn_X4_wrongBy : GoodIn wsX4_turn (va_wsS RX4 153 yX4_wrongBy wsX4_wrongBy) := goodIn_app (goodIn_of _ (by decide +kernel)) ggX4_turn_X4_wrongBy
set_option maxRecDepth 20000 in
theorem ggX4_turn_X4_no : GoodIn wsX4_turn wsX4_no := goodIn_r _ [16, 17, 21, 22, 23, 24, 25, 26, 27, 28, 29, 30, 31, 32, 33, 34, 35, 36] (by decide +kernel) (by decide +kernel)
set_option maxRecDepth 20000 in
theorem gX4_turn_X4_no : GoodIn wsX4_turn (wsV RX4 41 RX4 yX4_no wsX4_no) := goodIn_app (goodIn_of _ (by decide +kernel)) ggX4_turn_X4_no
set_option maxRecDepth 20000 in
theorem ggX4_turn_X4_ofT : GoodIn wsX4_turn wsX4_ofT := goodIn_r _ [20] (by decide +kernel) (by decide +kernel)
set_option maxRecDepth 20000 in
theorem gX4_turn_X4_ofT : GoodIn wsX4_turn (va_wsS RX4 51 yX4_ofT wsX4_ofT) := goodIn_app (goodIn_of _ (by decide +kernel)) ggX4_turn_X4_ofT
theorem dX4_turn_0 : decode cX4_turn 0 = .ok (.aload_n 0, 1) := by decide +kernel
theorem dX4_turn_1 : decode cX4_turn 1 = .ok (.iload_n 1, 1) := by decide +kernel
theorem dX4_turn_2 : decode cX4_turn 2 = .ok (.invokevirtual 133, 3) := by decide +kernel
theorem dX4_turn_5 : decode cX4_turn 5 = .ok (.ifCond .ne 7, 3) := by decide +kernel
theorem dX4_turn_8 : decode cX4_turn 8 = .ok (.iconst (-1), 1) := by decide +kernel
theorem dX4_turn_9 : decode cX4_turn 9 = .ok (.goto 23, 3) := by decide +kernel
theorem dX4_turn_12 : decode cX4_turn 12 = .ok (.iload_n 2, 1) := by decide +kernel
theorem dX4_turn_13 : decode cX4_turn 13 = .ok (.iconst 0, 1) := by decide +kernel
theorem dX4_turn_14 : decode cX4_turn 14 = .ok (.iconst 5, 1) := by decide +kernel
theorem dX4_turn_15 : decode cX4_turn 15 = .ok (.invokestatic 47, 3) := by decide +kernel
theorem dX4_turn_18 : decode cX4_turn 18 = .ok (.ifCond .ne 8, 3) := by decide +kernel
theorem dX4_turn_21 : decode cX4_turn 21 = .ok (.bipush (-2), 2) := by decide +kernel
theorem dX4_turn_23 : decode cX4_turn 23 = .ok (.goto 9, 3) := by decide +kernel
theorem dX4_turn_26 : decode cX4_turn 26 = .ok (.iload_n 3, 1) := by decide +kernel
theorem dX4_turn_27 : decode cX4_turn 27 = .ok (.bipush 9, 2) := by decide +kernel
theorem dX4_turn_29 : decode cX4_turn 29 = .ok (.invokestatic 153, 3) := by decide +kernel
theorem dX4_turn_32 : decode cX4_turn 32 = .ok (.istore 4, 2) := by decide +kernel
theorem dX4_turn_34 : decode cX4_turn 34 = .ok (.iload 4, 2) := by decide +kernel
theorem dX4_turn_36 : decode cX4_turn 36 = .ok (.ifCond .eq 10, 3) := by decide +kernel
theorem dX4_turn_39 : decode cX4_turn 39 = .ok (.aload_n 0, 1) := by decide +kernel
theorem dX4_turn_40 : decode cX4_turn 40 = .ok (.iload 4, 2) := by decide +kernel
theorem dX4_turn_42 : decode cX4_turn 42 = .ok (.invokevirtual 41, 3) := by decide +kernel
theorem dX4_turn_45 : decode cX4_turn 45 = .ok (.ireturn, 1) := by decide +kernel
theorem dX4_turn_46 : decode cX4_turn 46 = .ok (.iload_n 1, 1) := by decide +kernel
theorem dX4_turn_47 : decode cX4_turn 47 = .ok (.invokestatic 51, 3) := by decide +kernel
theorem dX4_turn_50 : decode cX4_turn 50 = .ok (.istore 5, 2) := by decide +kernel
theorem dX4_turn_52 : decode cX4_turn 52 = .ok (.bipush 10, 2) := by decide +kernel
theorem dX4_turn_54 : decode cX4_turn 54 = .ok (.aload_n 0, 1) := by decide +kernel
theorem dX4_turn_55 : decode cX4_turn 55 = .ok (.getfield 9, 3) := by decide +kernel
theorem dX4_turn_58 : decode cX4_turn 58 = .ok (.iload 5, 2) := by decide +kernel
theorem dX4_turn_60 : decode cX4_turn 60 = .ok (.iconst 0, 1) := by decide +kernel
theorem dX4_turn_61 : decode cX4_turn 61 = .ok (.iadd, 1) := by decide +kernel
theorem dX4_turn_62 : decode cX4_turn 62 = .ok (.iaload, 1) := by decide +kernel
theorem dX4_turn_63 : decode cX4_turn 63 = .ok (.imul, 1) := by decide +kernel
theorem dX4_turn_64 : decode cX4_turn 64 = .ok (.aload_n 0, 1) := by decide +kernel
theorem dX4_turn_65 : decode cX4_turn 65 = .ok (.getfield 9, 3) := by decide +kernel
theorem dX4_turn_68 : decode cX4_turn 68 = .ok (.iload 5, 2) := by decide +kernel
theorem dX4_turn_70 : decode cX4_turn 70 = .ok (.iconst 1, 1) := by decide +kernel
theorem dX4_turn_71 : decode cX4_turn 71 = .ok (.iadd, 1) := by decide +kernel
theorem dX4_turn_72 : decode cX4_turn 72 = .ok (.iaload, 1) := by decide +kernel
theorem dX4_turn_73 : decode cX4_turn 73 = .ok (.iadd, 1) := by decide +kernel
theorem dX4_turn_74 : decode cX4_turn 74 = .ok (.istore 6, 2) := by decide +kernel
theorem dX4_turn_76 : decode cX4_turn 76 = .ok (.aload_n 0, 1) := by decide +kernel
theorem dX4_turn_77 : decode cX4_turn 77 = .ok (.getfield 9, 3) := by decide +kernel
theorem dX4_turn_80 : decode cX4_turn 80 = .ok (.iload 5, 2) := by decide +kernel
theorem dX4_turn_82 : decode cX4_turn 82 = .ok (.iconst 0, 1) := by decide +kernel
theorem dX4_turn_83 : decode cX4_turn 83 = .ok (.iadd, 1) := by decide +kernel
theorem dX4_turn_84 : decode cX4_turn 84 = .ok (.iload_n 2, 1) := by decide +kernel
theorem dX4_turn_85 : decode cX4_turn 85 = .ok (.iastore, 1) := by decide +kernel
theorem dX4_turn_86 : decode cX4_turn 86 = .ok (.aload_n 0, 1) := by decide +kernel
theorem dX4_turn_87 : decode cX4_turn 87 = .ok (.getfield 9, 3) := by decide +kernel
theorem dX4_turn_90 : decode cX4_turn 90 = .ok (.iload 5, 2) := by decide +kernel
theorem dX4_turn_92 : decode cX4_turn 92 = .ok (.iconst 1, 1) := by decide +kernel
theorem dX4_turn_93 : decode cX4_turn 93 = .ok (.iadd, 1) := by decide +kernel
theorem dX4_turn_94 : decode cX4_turn 94 = .ok (.iload_n 3, 1) := by decide +kernel
theorem dX4_turn_95 : decode cX4_turn 95 = .ok (.iastore, 1) := by decide +kernel
theorem dX4_turn_96 : decode cX4_turn 96 = .ok (.iload 6, 2) := by decide +kernel
theorem dX4_turn_98 : decode cX4_turn 98 = .ok (.ireturn, 1) := by decide +kernel
set_option maxRecDepth 20000 in
theorem ggX4_days_X4_no : GoodIn wsX4_days wsX4_no := goodIn_r _ [6, 7, 50, 51, 52, 53, 54, 55, 56, 57, 58, 59, 60, 61, 62, 63, 64, 65] (by decide +kernel) (by decide +kernel)
set_option maxRecDepth 20000 in
theorem gX4_days_X4_no : GoodIn wsX4_days (wsV RX4 41 RX4 yX4_no wsX4_no) := goodIn_app (goodIn_of _ (by decide +kernel)) ggX4_days_X4_no
set_option maxRecDepth 20000 in
theorem ggX4_days_X4_daysOn : GoodIn wsX4_days wsX4_daysOn := goodIn_r _ [10, 11, 12, 5, 13, 14, 15, 16, 17, 18, 19, 20, 21, 22, 23, 24, 25, 26, 27, 28, 29, 30, 31, 32, 33, 34, 35, 36, 37, 38, 39, 40, 41, 42, 43] (by decide +kernel) (by decide +kernel)
set_option maxRecDepth 20000 in
theorem gX4_days_X4_daysOn : GoodIn wsX4_days (va_wsS RX4 91 yX4_daysOn wsX4_daysOn) := goodIn_app (goodIn_of _ (by decide +kernel)) ggX4_days_X4_daysOn
set_option maxRecDepth 20000 in
theorem ggX4_days_X4_wholeSet : GoodIn wsX4_days wsX4_wholeSet := goodIn_r _ [46, 14, 15, 5, 16, 17, 18, 19] (by decide +kernel) (by decide +kernel)
set_option maxRecDepth 20000 in
theorem gX4_days_X4_wholeSet : GoodIn wsX4_days (va_wsS RX4 94 yX4_wholeSet wsX4_wholeSet) := goodIn_app (goodIn_of _ (by decide +kernel)) ggX4_days_X4_wholeSet
set_option maxRecDepth 20000 in
theorem ggX4_days_X4_bits : GoodIn wsX4_days wsX4_bits := goodIn_r _ [49] (by decide +kernel) (by decide +kernel)
set_option maxRecDepth 20000 in
theorem gX4_days_X4_bits : GoodIn wsX4_days (va_wsS RX4 98 yX4_bits wsX4_bits) := goodIn_app (goodIn_of _ (by decide +kernel)) ggX4_days_X4_bits
theorem dX4_days_0 : decode cX4_days 0 = .ok (.iload_n 1, 1) := by decide +kernel
theorem dX4_days_1 : decode cX4_days 1 = .ok (.iconst 1, 1) := by decide +kernel
theorem dX4_days_2 : decode cX4_days 2 = .ok (.if_icmp .ge 10, 3) := by decide +kernel
theorem dX4_days_5 : decode cX4_days 5 = .ok (.aload_n 0, 1) := by decide +kernel
theorem dX4_days_6 : decode cX4_days 6 = .ok (.bipush (-4), 2) := by decide +kernel
theorem dX4_days_8 : decode cX4_days 8 = .ok (.invokevirtual 41, 3) := by decide +kernel
theorem dX4_days_11 : decode cX4_days 11 = .ok (.ireturn, 1) := by decide +kernel
theorem dX4_days_12 : decode cX4_days 12 = .ok (.iload_n 1, 1) := by decide +kernel
theorem dX4_days_13 : decode cX4_days 13 = .ok (.bipush 60, 2) := by decide +kernel
theorem dX4_days_15 : decode cX4_days 15 = .ok (.if_icmp .gt 17, 3) := by decide +kernel
theorem dX4_days_18 : decode cX4_days 18 = .ok (.aload_n 0, 1) := by decide +kernel
theorem dX4_days_19 : decode cX4_days 19 = .ok (.getfield 9, 3) := by decide +kernel
theorem dX4_days_22 : decode cX4_days 22 = .ok (.iconst 2, 1) := by decide +kernel
theorem dX4_days_23 : decode cX4_days 23 = .ok (.iaload, 1) := by decide +kernel
theorem dX4_days_24 : decode cX4_days 24 = .ok (.iload_n 1, 1) := by decide +kernel
theorem dX4_days_25 : decode cX4_days 25 = .ok (.iadd, 1) := by decide +kernel
theorem dX4_days_26 : decode cX4_days 26 = .ok (.sipush 999, 3) := by decide +kernel
theorem dX4_days_29 : decode cX4_days 29 = .ok (.if_icmp .le 10, 3) := by decide +kernel
theorem dX4_days_32 : decode cX4_days 32 = .ok (.aload_n 0, 1) := by decide +kernel
theorem dX4_days_33 : decode cX4_days 33 = .ok (.bipush (-6), 2) := by decide +kernel
theorem dX4_days_35 : decode cX4_days 35 = .ok (.invokevirtual 41, 3) := by decide +kernel
theorem dX4_days_38 : decode cX4_days 38 = .ok (.ireturn, 1) := by decide +kernel
theorem dX4_days_39 : decode cX4_days 39 = .ok (.aload_n 0, 1) := by decide +kernel
theorem dX4_days_40 : decode cX4_days 40 = .ok (.getfield 9, 3) := by decide +kernel
theorem dX4_days_43 : decode cX4_days 43 = .ok (.iload_n 1, 1) := by decide +kernel
theorem dX4_days_44 : decode cX4_days 44 = .ok (.invokestatic 91, 3) := by decide +kernel
theorem dX4_days_47 : decode cX4_days 47 = .ok (.aload_n 0, 1) := by decide +kernel
theorem dX4_days_48 : decode cX4_days 48 = .ok (.getfield 9, 3) := by decide +kernel
theorem dX4_days_51 : decode cX4_days 51 = .ok (.invokestatic 94, 3) := by decide +kernel
theorem dX4_days_54 : decode cX4_days 54 = .ok (.invokestatic 98, 3) := by decide +kernel
theorem dX4_days_57 : decode cX4_days 57 = .ok (.ireturn, 1) := by decide +kernel
set_option maxRecDepth 20000 in
theorem ggX4_takes_X4_copies : GoodIn wsX4_takes wsX4_copies := goodIn_r _ [6] (by decide +kernel) (by decide +kernel)
set_option maxRecDepth 20000 in
theorem gX4_takes_X4_copies : GoodIn wsX4_takes (va_wsS RX4 139 yX4_copies wsX4_copies) := goodIn_app (goodIn_of _ (by decide +kernel)) ggX4_takes_X4_copies
set_option maxRecDepth 20000 in
theorem ggX4_takes_X4_daysOn : GoodIn wsX4_takes wsX4_daysOn := goodIn_r _ [9, 10, 11, 5, 12, 13, 14, 15, 16, 17, 18, 19, 20, 21, 22, 23, 24, 25, 26, 27, 28, 29, 30, 31, 32, 33, 34, 35, 36, 37, 38, 39, 40, 41, 42] (by decide +kernel) (by decide +kernel)
set_option maxRecDepth 20000 in
theorem gX4_takes_X4_daysOn : GoodIn wsX4_takes (va_wsS RX4 91 yX4_daysOn wsX4_daysOn) := goodIn_app (goodIn_of _ (by decide +kernel)) ggX4_takes_X4_daysOn
theorem dX4_takes_0 : decode cX4_takes 0 = .ok (.aload_n 0, 1) := by decide +kernel
theorem dX4_takes_1 : decode cX4_takes 1 = .ok (.getfield 9, 3) := by decide +kernel
theorem dX4_takes_4 : decode cX4_takes 4 = .ok (.aload_n 0, 1) := by decide +kernel
theorem dX4_takes_5 : decode cX4_takes 5 = .ok (.getfield 13, 3) := by decide +kernel
theorem dX4_takes_8 : decode cX4_takes 8 = .ok (.invokestatic 139, 3) := by decide +kernel
theorem dX4_takes_11 : decode cX4_takes 11 = .ok (.aload_n 0, 1) := by decide +kernel
theorem dX4_takes_12 : decode cX4_takes 12 = .ok (.getfield 13, 3) := by decide +kernel
theorem dX4_takes_15 : decode cX4_takes 15 = .ok (.iload_n 1, 1) := by decide +kernel
theorem dX4_takes_16 : decode cX4_takes 16 = .ok (.invokestatic 91, 3) := by decide +kernel
theorem dX4_takes_19 : decode cX4_takes 19 = .ok (.return_, 1) := by decide +kernel
set_option maxRecDepth 20000 in
theorem ggX4_wholeThen_X4_wrongBy : GoodIn wsX4_wholeThen wsX4_wrongBy := goodIn_r _ [5] (by decide +kernel) (by decide +kernel)
set_option maxRecDepth 20000 in
theorem gX4_wholeThen_X4_wrongBy : GoodIn wsX4_wholeThen (va_wsS RX4 153 yX4_wrongBy wsX4_wrongBy) := goodIn_app (goodIn_of _ (by decide +kernel)) ggX4_wholeThen_X4_wrongBy
set_option maxRecDepth 20000 in
theorem ggX4_wholeThen_X4_no : GoodIn wsX4_wholeThen wsX4_no := goodIn_r _ [9, 10, 58, 59, 60, 61, 62, 63, 64, 65, 66, 67, 68, 69, 70, 71, 72, 73] (by decide +kernel) (by decide +kernel)
set_option maxRecDepth 20000 in
theorem gX4_wholeThen_X4_no : GoodIn wsX4_wholeThen (wsV RX4 41 RX4 yX4_no wsX4_no) := goodIn_app (goodIn_of _ (by decide +kernel)) ggX4_wholeThen_X4_no
set_option maxRecDepth 20000 in
theorem ggX4_wholeThen_X4_takes : GoodIn wsX4_wholeThen wsX4_takes := goodIn_r _ [14, 15, 1, 16, 17, 4, 18, 19, 20, 21, 22, 23, 24, 25, 26, 27, 28, 29, 30, 31, 32, 33, 34, 35, 36, 37, 38, 39, 40, 41, 42, 43, 44, 45, 46, 47, 48, 49, 50, 51, 52, 53, 54, 58, 59, 60, 61, 62, 63, 64, 65, 66, 67, 68, 69, 70, 71, 72, 73] (by decide +kernel) (by decide +kernel)
set_option maxRecDepth 20000 in
theorem gX4_wholeThen_X4_takes : GoodIn wsX4_wholeThen (wsV RX4 156 RX4 yX4_takes wsX4_takes) := goodIn_app (goodIn_of _ (by decide +kernel)) ggX4_wholeThen_X4_takes
set_option maxRecDepth 20000 in
theorem ggX4_wholeThen_X4_wholeSet : GoodIn wsX4_wholeThen wsX4_wholeSet := goodIn_r _ [57, 25, 26, 4, 27, 28, 29, 30] (by decide +kernel) (by decide +kernel)
set_option maxRecDepth 20000 in
theorem gX4_wholeThen_X4_wholeSet : GoodIn wsX4_wholeThen (va_wsS RX4 94 yX4_wholeSet wsX4_wholeSet) := goodIn_app (goodIn_of _ (by decide +kernel)) ggX4_wholeThen_X4_wholeSet
theorem dX4_wholeThen_0 : decode cX4_wholeThen 0 = .ok (.iload_n 1, 1) := by decide +kernel
theorem dX4_wholeThen_1 : decode cX4_wholeThen 1 = .ok (.bipush 99, 2) := by decide +kernel
theorem dX4_wholeThen_3 : decode cX4_wholeThen 3 = .ok (.invokestatic 153, 3) := by decide +kernel
theorem dX4_wholeThen_6 : decode cX4_wholeThen 6 = .ok (.istore_n 2, 1) := by decide +kernel
theorem dX4_wholeThen_7 : decode cX4_wholeThen 7 = .ok (.iload_n 2, 1) := by decide +kernel
theorem dX4_wholeThen_8 : decode cX4_wholeThen 8 = .ok (.ifCond .eq 9, 3) := by decide +kernel
theorem dX4_wholeThen_11 : decode cX4_wholeThen 11 = .ok (.aload_n 0, 1) := by decide +kernel
theorem dX4_wholeThen_12 : decode cX4_wholeThen 12 = .ok (.iload_n 2, 1) := by decide +kernel
theorem dX4_wholeThen_13 : decode cX4_wholeThen 13 = .ok (.invokevirtual 41, 3) := by decide +kernel
theorem dX4_wholeThen_16 : decode cX4_wholeThen 16 = .ok (.ireturn, 1) := by decide +kernel
theorem dX4_wholeThen_17 : decode cX4_wholeThen 17 = .ok (.aload_n 0, 1) := by decide +kernel
theorem dX4_wholeThen_18 : decode cX4_wholeThen 18 = .ok (.iload_n 1, 1) := by decide +kernel
theorem dX4_wholeThen_19 : decode cX4_wholeThen 19 = .ok (.invokevirtual 156, 3) := by decide +kernel
theorem dX4_wholeThen_22 : decode cX4_wholeThen 22 = .ok (.aload_n 0, 1) := by decide +kernel
theorem dX4_wholeThen_23 : decode cX4_wholeThen 23 = .ok (.getfield 13, 3) := by decide +kernel
theorem dX4_wholeThen_26 : decode cX4_wholeThen 26 = .ok (.invokestatic 94, 3) := by decide +kernel
theorem dX4_wholeThen_29 : decode cX4_wholeThen 29 = .ok (.ireturn, 1) := by decide +kernel
set_option maxRecDepth 20000 in
theorem ggX4_brokenThen_X4_isThing : GoodIn wsX4_brokenThen wsX4_isThing := goodIn_r _ [6, 7, 8, 9, 5, 10, 62, 63, 64, 65, 66, 67, 68, 69, 70, 71, 72, 73, 74, 75, 76, 77] (by decide +kernel) (by decide +kernel)
set_option maxRecDepth 20000 in
theorem gX4_brokenThen_X4_isThing : GoodIn wsX4_brokenThen (wsV RX4 133 RX4 yX4_isThing wsX4_isThing) := goodIn_app (goodIn_of _ (by decide +kernel)) ggX4_brokenThen_X4_isThing
set_option maxRecDepth 20000 in
theorem ggX4_brokenThen_X4_wrongBy : GoodIn wsX4_brokenThen wsX4_wrongBy := goodIn_r _ [13] (by decide +kernel) (by decide +kernel)
set_option maxRecDepth 20000 in
theorem gX4_brokenThen_X4_wrongBy : GoodIn wsX4_brokenThen (va_wsS RX4 153 yX4_wrongBy wsX4_wrongBy) := goodIn_app (goodIn_of _ (by decide +kernel)) ggX4_brokenThen_X4_wrongBy
set_option maxRecDepth 20000 in
theorem ggX4_brokenThen_X4_no : GoodIn wsX4_brokenThen wsX4_no := goodIn_r _ [17, 18, 62, 63, 64, 65, 66, 67, 68, 69, 70, 71, 72, 73, 74, 75, 76, 77] (by decide +kernel) (by decide +kernel)
set_option maxRecDepth 20000 in
theorem gX4_brokenThen_X4_no : GoodIn wsX4_brokenThen (wsV RX4 41 RX4 yX4_no wsX4_no) := goodIn_app (goodIn_of _ (by decide +kernel)) ggX4_brokenThen_X4_no
set_option maxRecDepth 20000 in
theorem ggX4_brokenThen_X4_takes : GoodIn wsX4_brokenThen wsX4_takes := goodIn_r _ [22, 7, 1, 23, 24, 5, 25, 26, 27, 28, 29, 30, 31, 32, 33, 34, 35, 36, 37, 38, 39, 40, 41, 42, 43, 44, 45, 46, 47, 48, 49, 50, 51, 52, 53, 54, 55, 56, 57, 58, 59, 60, 61, 62, 63, 64, 65, 66, 67, 68, 69, 70, 71, 72, 73, 74, 75, 76, 77] (by decide +kernel) (by decide +kernel)
set_option maxRecDepth 20000 in
theorem gX4_brokenThen_X4_takes : GoodIn wsX4_brokenThen (wsV RX4 156 RX4 yX4_takes wsX4_takes) := goodIn_app (goodIn_of _ (by decide +kernel)) ggX4_brokenThen_X4_takes
set_option maxRecDepth 20000 in
theorem ggX4_brokenThen_X4_ofT : GoodIn wsX4_brokenThen wsX4_ofT := goodIn_r _ [37] (by decide +kernel) (by decide +kernel)
set_option maxRecDepth 20000 in
theorem gX4_brokenThen_X4_ofT : GoodIn wsX4_brokenThen (va_wsS RX4 51 yX4_ofT wsX4_ofT) := goodIn_app (goodIn_of _ (by decide +kernel)) ggX4_brokenThen_X4_ofT
theorem dX4_brokenThen_0 : decode cX4_brokenThen 0 = .ok (.aload_n 0, 1) := by decide +kernel
theorem dX4_brokenThen_1 : decode cX4_brokenThen 1 = .ok (.iload_n 1, 1) := by decide +kernel
theorem dX4_brokenThen_2 : decode cX4_brokenThen 2 = .ok (.invokevirtual 133, 3) := by decide +kernel
theorem dX4_brokenThen_5 : decode cX4_brokenThen 5 = .ok (.ifCond .eq 12, 3) := by decide +kernel
theorem dX4_brokenThen_8 : decode cX4_brokenThen 8 = .ok (.iload_n 2, 1) := by decide +kernel
theorem dX4_brokenThen_9 : decode cX4_brokenThen 9 = .ok (.bipush 99, 2) := by decide +kernel
theorem dX4_brokenThen_11 : decode cX4_brokenThen 11 = .ok (.invokestatic 153, 3) := by decide +kernel
theorem dX4_brokenThen_14 : decode cX4_brokenThen 14 = .ok (.goto 4, 3) := by decide +kernel
theorem dX4_brokenThen_17 : decode cX4_brokenThen 17 = .ok (.iconst (-1), 1) := by decide +kernel
theorem dX4_brokenThen_18 : decode cX4_brokenThen 18 = .ok (.istore_n 3, 1) := by decide +kernel
theorem dX4_brokenThen_19 : decode cX4_brokenThen 19 = .ok (.iload_n 3, 1) := by decide +kernel
theorem dX4_brokenThen_20 : decode cX4_brokenThen 20 = .ok (.ifCond .eq 9, 3) := by decide +kernel
theorem dX4_brokenThen_23 : decode cX4_brokenThen 23 = .ok (.aload_n 0, 1) := by decide +kernel
theorem dX4_brokenThen_24 : decode cX4_brokenThen 24 = .ok (.iload_n 3, 1) := by decide +kernel
theorem dX4_brokenThen_25 : decode cX4_brokenThen 25 = .ok (.invokevirtual 41, 3) := by decide +kernel
theorem dX4_brokenThen_28 : decode cX4_brokenThen 28 = .ok (.ireturn, 1) := by decide +kernel
theorem dX4_brokenThen_29 : decode cX4_brokenThen 29 = .ok (.aload_n 0, 1) := by decide +kernel
theorem dX4_brokenThen_30 : decode cX4_brokenThen 30 = .ok (.iload_n 2, 1) := by decide +kernel
theorem dX4_brokenThen_31 : decode cX4_brokenThen 31 = .ok (.invokevirtual 156, 3) := by decide +kernel
theorem dX4_brokenThen_34 : decode cX4_brokenThen 34 = .ok (.aload_n 0, 1) := by decide +kernel
theorem dX4_brokenThen_35 : decode cX4_brokenThen 35 = .ok (.getfield 13, 3) := by decide +kernel
theorem dX4_brokenThen_38 : decode cX4_brokenThen 38 = .ok (.iload_n 1, 1) := by decide +kernel
theorem dX4_brokenThen_39 : decode cX4_brokenThen 39 = .ok (.invokestatic 51, 3) := by decide +kernel
theorem dX4_brokenThen_42 : decode cX4_brokenThen 42 = .ok (.iconst 4, 1) := by decide +kernel
theorem dX4_brokenThen_43 : decode cX4_brokenThen 43 = .ok (.iadd, 1) := by decide +kernel
theorem dX4_brokenThen_44 : decode cX4_brokenThen 44 = .ok (.iaload, 1) := by decide +kernel
theorem dX4_brokenThen_45 : decode cX4_brokenThen 45 = .ok (.ireturn, 1) := by decide +kernel
set_option maxRecDepth 20000 in
theorem ggX4_mendedThen_X4_wrongBy : GoodIn wsX4_mendedThen wsX4_wrongBy := goodIn_r _ [6] (by decide +kernel) (by decide +kernel)
set_option maxRecDepth 20000 in
theorem gX4_mendedThen_X4_wrongBy : GoodIn wsX4_mendedThen (va_wsS RX4 153 yX4_wrongBy wsX4_wrongBy) := goodIn_app (goodIn_of _ (by decide +kernel)) ggX4_mendedThen_X4_wrongBy
set_option maxRecDepth 20000 in
theorem ggX4_mendedThen_X4_no : GoodIn wsX4_mendedThen wsX4_no := goodIn_r _ [10, 11, 58, 59, 60, 61, 62, 63, 64, 65, 66, 67, 68, 69, 70, 71, 72, 73] (by decide +kernel) (by decide +kernel)
set_option maxRecDepth 20000 in
theorem gX4_mendedThen_X4_no : GoodIn wsX4_mendedThen (wsV RX4 41 RX4 yX4_no wsX4_no) := goodIn_app (goodIn_of _ (by decide +kernel)) ggX4_mendedThen_X4_no
set_option maxRecDepth 20000 in
theorem ggX4_mendedThen_X4_takes : GoodIn wsX4_mendedThen wsX4_takes := goodIn_r _ [15, 2, 1, 16, 17, 5, 18, 19, 20, 21, 22, 23, 24, 25, 26, 27, 28, 29, 30, 31, 32, 33, 34, 35, 36, 37, 38, 39, 40, 41, 42, 43, 44, 45, 46, 47, 48, 49, 50, 51, 52, 53, 54, 58, 59, 60, 61, 62, 63, 64, 65, 66, 67, 68, 69, 70, 71, 72, 73] (by decide +kernel) (by decide +kernel)
set_option maxRecDepth 20000 in
theorem gX4_mendedThen_X4_takes : GoodIn wsX4_mendedThen (wsV RX4 156 RX4 yX4_takes wsX4_takes) := goodIn_app (goodIn_of _ (by decide +kernel)) ggX4_mendedThen_X4_takes
set_option maxRecDepth 20000 in
theorem ggX4_mendedThen_X4_mendedAll : GoodIn wsX4_mendedThen wsX4_mendedAll := goodIn_r _ [57, 46, 47, 5, 48] (by decide +kernel) (by decide +kernel)
set_option maxRecDepth 20000 in
theorem gX4_mendedThen_X4_mendedAll : GoodIn wsX4_mendedThen (va_wsS RX4 160 yX4_mendedAll wsX4_mendedAll) := goodIn_app (goodIn_of _ (by decide +kernel)) ggX4_mendedThen_X4_mendedAll
theorem dX4_mendedThen_0 : decode cX4_mendedThen 0 = .ok (.iload_n 1, 1) := by decide +kernel
theorem dX4_mendedThen_1 : decode cX4_mendedThen 1 = .ok (.bipush 99, 2) := by decide +kernel
theorem dX4_mendedThen_3 : decode cX4_mendedThen 3 = .ok (.invokestatic 153, 3) := by decide +kernel
theorem dX4_mendedThen_6 : decode cX4_mendedThen 6 = .ok (.istore_n 2, 1) := by decide +kernel
theorem dX4_mendedThen_7 : decode cX4_mendedThen 7 = .ok (.iload_n 2, 1) := by decide +kernel
theorem dX4_mendedThen_8 : decode cX4_mendedThen 8 = .ok (.ifCond .eq 9, 3) := by decide +kernel
theorem dX4_mendedThen_11 : decode cX4_mendedThen 11 = .ok (.aload_n 0, 1) := by decide +kernel
theorem dX4_mendedThen_12 : decode cX4_mendedThen 12 = .ok (.iload_n 2, 1) := by decide +kernel
theorem dX4_mendedThen_13 : decode cX4_mendedThen 13 = .ok (.invokevirtual 41, 3) := by decide +kernel
theorem dX4_mendedThen_16 : decode cX4_mendedThen 16 = .ok (.ireturn, 1) := by decide +kernel
theorem dX4_mendedThen_17 : decode cX4_mendedThen 17 = .ok (.aload_n 0, 1) := by decide +kernel
theorem dX4_mendedThen_18 : decode cX4_mendedThen 18 = .ok (.iload_n 1, 1) := by decide +kernel
theorem dX4_mendedThen_19 : decode cX4_mendedThen 19 = .ok (.invokevirtual 156, 3) := by decide +kernel
theorem dX4_mendedThen_22 : decode cX4_mendedThen 22 = .ok (.aload_n 0, 1) := by decide +kernel
theorem dX4_mendedThen_23 : decode cX4_mendedThen 23 = .ok (.getfield 13, 3) := by decide +kernel
theorem dX4_mendedThen_26 : decode cX4_mendedThen 26 = .ok (.invokestatic 160, 3) := by decide +kernel
theorem dX4_mendedThen_29 : decode cX4_mendedThen 29 = .ok (.aload_n 0, 1) := by decide +kernel
theorem dX4_mendedThen_30 : decode cX4_mendedThen 30 = .ok (.getfield 9, 3) := by decide +kernel
theorem dX4_mendedThen_33 : decode cX4_mendedThen 33 = .ok (.invokestatic 160, 3) := by decide +kernel
theorem dX4_mendedThen_36 : decode cX4_mendedThen 36 = .ok (.isub, 1) := by decide +kernel
theorem dX4_mendedThen_37 : decode cX4_mendedThen 37 = .ok (.ireturn, 1) := by decide +kernel
set_option maxRecDepth 20000 in
theorem ggX4_whenIn_X4_wholeSet : GoodIn wsX4_whenIn wsX4_wholeSet := goodIn_r _ [5, 6, 7, 4, 8, 9, 10, 11] (by decide +kernel) (by decide +kernel)
set_option maxRecDepth 20000 in
theorem gX4_whenIn_X4_wholeSet : GoodIn wsX4_whenIn (va_wsS RX4 94 yX4_wholeSet wsX4_wholeSet) := goodIn_app (goodIn_of _ (by decide +kernel)) ggX4_whenIn_X4_wholeSet
set_option maxRecDepth 20000 in
theorem ggX4_whenIn_X4_day : GoodIn wsX4_whenIn wsX4_day := goodIn_r _ [14, 6, 7, 4, 8, 9, 10, 11, 15, 16, 17, 18, 19, 20, 21, 22, 23, 24, 25, 26, 27, 28, 29, 30, 31, 32, 33, 34, 35, 36, 37, 38] (by decide +kernel) (by decide +kernel)
set_option maxRecDepth 20000 in
theorem gX4_whenIn_X4_day : GoodIn wsX4_whenIn (va_wsS RX4 87 yX4_day wsX4_day) := goodIn_app (goodIn_of _ (by decide +kernel)) ggX4_whenIn_X4_day
theorem dX4_whenIn_0 : decode cX4_whenIn 0 = .ok (.iconst 0, 1) := by decide +kernel
theorem dX4_whenIn_1 : decode cX4_whenIn 1 = .ok (.istore 4, 2) := by decide +kernel
theorem dX4_whenIn_3 : decode cX4_whenIn 3 = .ok (.iload 4, 2) := by decide +kernel
theorem dX4_whenIn_5 : decode cX4_whenIn 5 = .ok (.bipush 99, 2) := by decide +kernel
theorem dX4_whenIn_7 : decode cX4_whenIn 7 = .ok (.if_icmp .gt 52, 3) := by decide +kernel
theorem dX4_whenIn_10 : decode cX4_whenIn 10 = .ok (.aload_n 0, 1) := by decide +kernel
theorem dX4_whenIn_11 : decode cX4_whenIn 11 = .ok (.getfield 13, 3) := by decide +kernel
theorem dX4_whenIn_14 : decode cX4_whenIn 14 = .ok (.invokestatic 94, 3) := by decide +kernel
theorem dX4_whenIn_17 : decode cX4_whenIn 17 = .ok (.iload_n 1, 1) := by decide +kernel
theorem dX4_whenIn_18 : decode cX4_whenIn 18 = .ok (.iand, 1) := by decide +kernel
theorem dX4_whenIn_19 : decode cX4_whenIn 19 = .ok (.iload_n 1, 1) := by decide +kernel
theorem dX4_whenIn_20 : decode cX4_whenIn 20 = .ok (.if_icmp .ne 7, 3) := by decide +kernel
theorem dX4_whenIn_23 : decode cX4_whenIn 23 = .ok (.iconst 1, 1) := by decide +kernel
theorem dX4_whenIn_24 : decode cX4_whenIn 24 = .ok (.goto 4, 3) := by decide +kernel
theorem dX4_whenIn_27 : decode cX4_whenIn 27 = .ok (.iconst 0, 1) := by decide +kernel
theorem dX4_whenIn_28 : decode cX4_whenIn 28 = .ok (.istore 5, 2) := by decide +kernel
theorem dX4_whenIn_30 : decode cX4_whenIn 30 = .ok (.iload 4, 2) := by decide +kernel
theorem dX4_whenIn_32 : decode cX4_whenIn 32 = .ok (.iload_n 3, 1) := by decide +kernel
theorem dX4_whenIn_33 : decode cX4_whenIn 33 = .ok (.if_icmp .lt 12, 3) := by decide +kernel
theorem dX4_whenIn_36 : decode cX4_whenIn 36 = .ok (.iload 5, 2) := by decide +kernel
theorem dX4_whenIn_38 : decode cX4_whenIn 38 = .ok (.iload_n 2, 1) := by decide +kernel
theorem dX4_whenIn_39 : decode cX4_whenIn 39 = .ok (.if_icmp .ne 6, 3) := by decide +kernel
theorem dX4_whenIn_42 : decode cX4_whenIn 42 = .ok (.iload 4, 2) := by decide +kernel
theorem dX4_whenIn_44 : decode cX4_whenIn 44 = .ok (.ireturn, 1) := by decide +kernel
theorem dX4_whenIn_45 : decode cX4_whenIn 45 = .ok (.aload_n 0, 1) := by decide +kernel
theorem dX4_whenIn_46 : decode cX4_whenIn 46 = .ok (.getfield 13, 3) := by decide +kernel
theorem dX4_whenIn_49 : decode cX4_whenIn 49 = .ok (.iconst 1, 1) := by decide +kernel
theorem dX4_whenIn_50 : decode cX4_whenIn 50 = .ok (.invokestatic 87, 3) := by decide +kernel
theorem dX4_whenIn_53 : decode cX4_whenIn 53 = .ok (.iinc 4 1, 3) := by decide +kernel
theorem dX4_whenIn_56 : decode cX4_whenIn 56 = .ok (.goto (-53), 3) := by decide +kernel
theorem dX4_whenIn_59 : decode cX4_whenIn 59 = .ok (.bipush (-9), 2) := by decide +kernel
theorem dX4_whenIn_61 : decode cX4_whenIn 61 = .ok (.ireturn, 1) := by decide +kernel
set_option maxRecDepth 20000 in
theorem ggX4_whenOf_X4_copies : GoodIn wsX4_whenOf wsX4_copies := goodIn_r _ [6] (by decide +kernel) (by decide +kernel)
set_option maxRecDepth 20000 in
theorem gX4_whenOf_X4_copies : GoodIn wsX4_whenOf (va_wsS RX4 139 yX4_copies wsX4_copies) := goodIn_app (goodIn_of _ (by decide +kernel)) ggX4_whenOf_X4_copies
set_option maxRecDepth 20000 in
theorem ggX4_whenOf_X4_whenIn : GoodIn wsX4_whenOf wsX4_whenIn := goodIn_r _ [10, 2, 11, 12, 5, 13, 14, 15, 16, 17, 18, 19, 20, 21, 22, 23, 24, 25, 26, 27, 28, 29, 30, 31, 32, 33, 34, 35, 36, 37, 38, 39, 40, 41, 42, 43, 44, 45, 46, 47, 48, 49, 50, 51, 52, 53, 54, 55, 56, 57, 58, 59, 60, 61, 62] (by decide +kernel) (by decide +kernel)
set_option maxRecDepth 20000 in
theorem gX4_whenOf_X4_whenIn : GoodIn wsX4_whenOf (wsV RX4 163 RX4 yX4_whenIn wsX4_whenIn) := goodIn_app (goodIn_of _ (by decide +kernel)) ggX4_whenOf_X4_whenIn
theorem dX4_whenOf_0 : decode cX4_whenOf 0 = .ok (.aload_n 0, 1) := by decide +kernel
theorem dX4_whenOf_1 : decode cX4_whenOf 1 = .ok (.getfield 9, 3) := by decide +kernel
theorem dX4_whenOf_4 : decode cX4_whenOf 4 = .ok (.aload_n 0, 1) := by decide +kernel
theorem dX4_whenOf_5 : decode cX4_whenOf 5 = .ok (.getfield 13, 3) := by decide +kernel
theorem dX4_whenOf_8 : decode cX4_whenOf 8 = .ok (.invokestatic 139, 3) := by decide +kernel
theorem dX4_whenOf_11 : decode cX4_whenOf 11 = .ok (.aload_n 0, 1) := by decide +kernel
theorem dX4_whenOf_12 : decode cX4_whenOf 12 = .ok (.iload_n 1, 1) := by decide +kernel
theorem dX4_whenOf_13 : decode cX4_whenOf 13 = .ok (.iload_n 2, 1) := by decide +kernel
theorem dX4_whenOf_14 : decode cX4_whenOf 14 = .ok (.iconst 0, 1) := by decide +kernel
theorem dX4_whenOf_15 : decode cX4_whenOf 15 = .ok (.invokevirtual 163, 3) := by decide +kernel
theorem dX4_whenOf_18 : decode cX4_whenOf 18 = .ok (.ireturn, 1) := by decide +kernel
set_option maxRecDepth 20000 in
theorem ggX4_again_X4_isThing : GoodIn wsX4_again wsX4_isThing := goodIn_r _ [5, 6, 7, 8, 4, 9, 63, 64, 65, 66, 67, 68, 69, 70, 71, 72, 73, 74, 75, 76, 77, 78] (by decide +kernel) (by decide +kernel)
set_option maxRecDepth 20000 in
theorem gX4_again_X4_isThing : GoodIn wsX4_again (wsV RX4 133 RX4 yX4_isThing wsX4_isThing) := goodIn_app (goodIn_of _ (by decide +kernel)) ggX4_again_X4_isThing
set_option maxRecDepth 20000 in
theorem ggX4_again_X4_no : GoodIn wsX4_again wsX4_no := goodIn_r _ [13, 14, 63, 64, 65, 66, 67, 68, 69, 70, 71, 72, 73, 74, 75, 76, 77, 78] (by decide +kernel) (by decide +kernel)
set_option maxRecDepth 20000 in
theorem gX4_again_X4_no : GoodIn wsX4_again (wsV RX4 41 RX4 yX4_no wsX4_no) := goodIn_app (goodIn_of _ (by decide +kernel)) ggX4_again_X4_no
set_option maxRecDepth 20000 in
theorem ggX4_again_X4_isIn : GoodIn wsX4_again wsX4_isIn := goodIn_r _ [9] (by decide +kernel) (by decide +kernel)
set_option maxRecDepth 20000 in
theorem gX4_again_X4_isIn : GoodIn wsX4_again (va_wsS RX4 47 yX4_isIn wsX4_isIn) := goodIn_app (goodIn_of _ (by decide +kernel)) ggX4_again_X4_isIn
set_option maxRecDepth 20000 in
theorem ggX4_again_X4_whenOf : GoodIn wsX4_again wsX4_whenOf := goodIn_r _ [18, 6, 19, 20, 21, 4, 22, 23, 24, 25, 26, 27, 28, 29, 30, 31, 32, 33, 34, 35, 36, 37, 38, 39, 40, 41, 42, 43, 44, 45, 46, 47, 48, 49, 50, 51, 52, 53, 54, 55, 56, 57, 58, 59, 60, 61, 62, 63, 64, 65, 66, 67, 68, 69, 70, 71, 72, 73, 74, 75, 76, 77, 78] (by decide +kernel) (by decide +kernel)
set_option maxRecDepth 20000 in
theorem gX4_again_X4_whenOf : GoodIn wsX4_again (wsV RX4 167 RX4 yX4_whenOf wsX4_whenOf) := goodIn_app (goodIn_of _ (by decide +kernel)) ggX4_again_X4_whenOf
theorem dX4_again_0 : decode cX4_again 0 = .ok (.aload_n 0, 1) := by decide +kernel
theorem dX4_again_1 : decode cX4_again 1 = .ok (.iload_n 1, 1) := by decide +kernel
theorem dX4_again_2 : decode cX4_again 2 = .ok (.invokevirtual 133, 3) := by decide +kernel
theorem dX4_again_5 : decode cX4_again 5 = .ok (.ifCond .ne 9, 3) := by decide +kernel
theorem dX4_again_8 : decode cX4_again 8 = .ok (.aload_n 0, 1) := by decide +kernel
theorem dX4_again_9 : decode cX4_again 9 = .ok (.iconst (-1), 1) := by decide +kernel
theorem dX4_again_10 : decode cX4_again 10 = .ok (.invokevirtual 41, 3) := by decide +kernel
theorem dX4_again_13 : decode cX4_again 13 = .ok (.ireturn, 1) := by decide +kernel
theorem dX4_again_14 : decode cX4_again 14 = .ok (.iload_n 2, 1) := by decide +kernel
theorem dX4_again_15 : decode cX4_again 15 = .ok (.iconst 0, 1) := by decide +kernel
theorem dX4_again_16 : decode cX4_again 16 = .ok (.iconst 1, 1) := by decide +kernel
theorem dX4_again_17 : decode cX4_again 17 = .ok (.invokestatic 47, 3) := by decide +kernel
theorem dX4_again_20 : decode cX4_again 20 = .ok (.ifCond .eq 22, 3) := by decide +kernel
theorem dX4_again_23 : decode cX4_again 23 = .ok (.aload_n 0, 1) := by decide +kernel
theorem dX4_again_24 : decode cX4_again 24 = .ok (.iconst 1, 1) := by decide +kernel
theorem dX4_again_25 : decode cX4_again 25 = .ok (.iload_n 1, 1) := by decide +kernel
theorem dX4_again_26 : decode cX4_again 26 = .ok (.ishl, 1) := by decide +kernel
theorem dX4_again_27 : decode cX4_again 27 = .ok (.iload_n 2, 1) := by decide +kernel
theorem dX4_again_28 : decode cX4_again 28 = .ok (.ifCond .ne 7, 3) := by decide +kernel
theorem dX4_again_31 : decode cX4_again 31 = .ok (.iconst 1, 1) := by decide +kernel
theorem dX4_again_32 : decode cX4_again 32 = .ok (.goto 4, 3) := by decide +kernel
theorem dX4_again_35 : decode cX4_again 35 = .ok (.iconst 0, 1) := by decide +kernel
theorem dX4_again_36 : decode cX4_again 36 = .ok (.invokevirtual 167, 3) := by decide +kernel
theorem dX4_again_39 : decode cX4_again 39 = .ok (.goto 9, 3) := by decide +kernel
theorem dX4_again_42 : decode cX4_again 42 = .ok (.aload_n 0, 1) := by decide +kernel
theorem dX4_again_43 : decode cX4_again 43 = .ok (.bipush (-2), 2) := by decide +kernel
theorem dX4_again_45 : decode cX4_again 45 = .ok (.invokevirtual 41, 3) := by decide +kernel
theorem dX4_again_48 : decode cX4_again 48 = .ok (.ireturn, 1) := by decide +kernel
set_option maxRecDepth 20000 in
theorem ggX4_mourned_X4_isIn : GoodIn wsX4_mourned wsX4_isIn := goodIn_r _ [5] (by decide +kernel) (by decide +kernel)
set_option maxRecDepth 20000 in
theorem gX4_mourned_X4_isIn : GoodIn wsX4_mourned (va_wsS RX4 47 yX4_isIn wsX4_isIn) := goodIn_app (goodIn_of _ (by decide +kernel)) ggX4_mourned_X4_isIn
set_option maxRecDepth 20000 in
theorem ggX4_mourned_X4_no : GoodIn wsX4_mourned wsX4_no := goodIn_r _ [9, 10, 59, 60, 61, 62, 63, 64, 65, 66, 67, 68, 69, 70, 71, 72, 73, 74] (by decide +kernel) (by decide +kernel)
set_option maxRecDepth 20000 in
theorem gX4_mourned_X4_no : GoodIn wsX4_mourned (wsV RX4 41 RX4 yX4_no wsX4_no) := goodIn_app (goodIn_of _ (by decide +kernel)) ggX4_mourned_X4_no
set_option maxRecDepth 20000 in
theorem ggX4_mourned_X4_whenOf : GoodIn wsX4_mourned wsX4_whenOf := goodIn_r _ [14, 1, 15, 16, 17, 4, 18, 19, 20, 21, 22, 23, 24, 25, 26, 27, 28, 29, 30, 31, 32, 33, 34, 35, 36, 37, 38, 39, 40, 41, 42, 43, 44, 45, 46, 47, 48, 49, 50, 51, 52, 53, 54, 55, 56, 57, 58, 59, 60, 61, 62, 63, 64, 65, 66, 67, 68, 69, 70, 71, 72, 73, 74] (by decide +kernel) (by decide +kernel)
set_option maxRecDepth 20000 in
theorem gX4_mourned_X4_whenOf : GoodIn wsX4_mourned (wsV RX4 167 RX4 yX4_whenOf wsX4_whenOf) := goodIn_app (goodIn_of _ (by decide +kernel)) ggX4_mourned_X4_whenOf
set_option maxRecDepth 20000 in
theorem ggX4_mourned_X4_ofT : GoodIn wsX4_mourned wsX4_ofT := goodIn_r _ [31] (by decide +kernel) (by decide +kernel)
set_option maxRecDepth 20000 in
theorem gX4_mourned_X4_ofT : GoodIn wsX4_mourned (va_wsS RX4 51 yX4_ofT wsX4_ofT) := goodIn_app (goodIn_of _ (by decide +kernel)) ggX4_mourned_X4_ofT
theorem dX4_mourned_0 : decode cX4_mourned 0 = .ok (.iload_n 1, 1) := by decide +kernel
theorem dX4_mourned_1 : decode cX4_mourned 1 = .ok (.iconst 0, 1) := by decide +kernel
theorem dX4_mourned_2 : decode cX4_mourned 2 = .ok (.iconst 1, 1) := by decide +kernel
theorem dX4_mourned_3 : decode cX4_mourned 3 = .ok (.invokestatic 47, 3) := by decide +kernel
theorem dX4_mourned_6 : decode cX4_mourned 6 = .ok (.ifCond .ne 10, 3) := by decide +kernel
theorem dX4_mourned_9 : decode cX4_mourned 9 = .ok (.aload_n 0, 1) := by decide +kernel
theorem dX4_mourned_10 : decode cX4_mourned 10 = .ok (.bipush (-2), 2) := by decide +kernel
theorem dX4_mourned_12 : decode cX4_mourned 12 = .ok (.invokevirtual 41, 3) := by decide +kernel
theorem dX4_mourned_15 : decode cX4_mourned 15 = .ok (.ireturn, 1) := by decide +kernel
theorem dX4_mourned_16 : decode cX4_mourned 16 = .ok (.iload_n 1, 1) := by decide +kernel
theorem dX4_mourned_17 : decode cX4_mourned 17 = .ok (.iconst 1, 1) := by decide +kernel
theorem dX4_mourned_18 : decode cX4_mourned 18 = .ok (.if_icmp .ne 19, 3) := by decide +kernel
theorem dX4_mourned_21 : decode cX4_mourned 21 = .ok (.aload_n 0, 1) := by decide +kernel
theorem dX4_mourned_22 : decode cX4_mourned 22 = .ok (.iconst 1, 1) := by decide +kernel
theorem dX4_mourned_23 : decode cX4_mourned 23 = .ok (.aload_n 0, 1) := by decide +kernel
theorem dX4_mourned_24 : decode cX4_mourned 24 = .ok (.getfield 9, 3) := by decide +kernel
theorem dX4_mourned_27 : decode cX4_mourned 27 = .ok (.iconst 1, 1) := by decide +kernel
theorem dX4_mourned_28 : decode cX4_mourned 28 = .ok (.iaload, 1) := by decide +kernel
theorem dX4_mourned_29 : decode cX4_mourned 29 = .ok (.ishl, 1) := by decide +kernel
theorem dX4_mourned_30 : decode cX4_mourned 30 = .ok (.iconst 1, 1) := by decide +kernel
theorem dX4_mourned_31 : decode cX4_mourned 31 = .ok (.isub, 1) := by decide +kernel
theorem dX4_mourned_32 : decode cX4_mourned 32 = .ok (.iconst 1, 1) := by decide +kernel
theorem dX4_mourned_33 : decode cX4_mourned 33 = .ok (.invokevirtual 167, 3) := by decide +kernel
theorem dX4_mourned_36 : decode cX4_mourned 36 = .ok (.ireturn, 1) := by decide +kernel
theorem dX4_mourned_37 : decode cX4_mourned 37 = .ok (.iconst 0, 1) := by decide +kernel
theorem dX4_mourned_38 : decode cX4_mourned 38 = .ok (.istore_n 2, 1) := by decide +kernel
theorem dX4_mourned_39 : decode cX4_mourned 39 = .ok (.iconst 0, 1) := by decide +kernel
theorem dX4_mourned_40 : decode cX4_mourned 40 = .ok (.istore_n 3, 1) := by decide +kernel
theorem dX4_mourned_41 : decode cX4_mourned 41 = .ok (.iload_n 3, 1) := by decide +kernel
theorem dX4_mourned_42 : decode cX4_mourned 42 = .ok (.aload_n 0, 1) := by decide +kernel
theorem dX4_mourned_43 : decode cX4_mourned 43 = .ok (.getfield 9, 3) := by decide +kernel
theorem dX4_mourned_46 : decode cX4_mourned 46 = .ok (.iconst 1, 1) := by decide +kernel
theorem dX4_mourned_47 : decode cX4_mourned 47 = .ok (.iaload, 1) := by decide +kernel
theorem dX4_mourned_48 : decode cX4_mourned 48 = .ok (.if_icmp .ge 35, 3) := by decide +kernel
theorem dX4_mourned_51 : decode cX4_mourned 51 = .ok (.iload_n 2, 1) := by decide +kernel
theorem dX4_mourned_52 : decode cX4_mourned 52 = .ok (.aload_n 0, 1) := by decide +kernel
theorem dX4_mourned_53 : decode cX4_mourned 53 = .ok (.getfield 9, 3) := by decide +kernel
theorem dX4_mourned_56 : decode cX4_mourned 56 = .ok (.iload_n 3, 1) := by decide +kernel
theorem dX4_mourned_57 : decode cX4_mourned 57 = .ok (.invokestatic 51, 3) := by decide +kernel
