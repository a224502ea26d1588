theorem dJ6_bitCount_0f7a4_0 : decode cJ6_bitCount_0f7a4 0 = .ok (.iload_n 0, 1) := by decide +kernel
theorem dJ6_bitCount_0f7a4_1 : decode cJ6_bitCount_0f7a4 1 = .ok (.iload_n 0, 1) := by decide +kernel
theorem dJ6_bitCount_0f7a4_2 : decode cJ6_bitCount_0f7a4 2 = .ok (.iconst 1, 1) := by decide +kernel
theorem dJ6_bitCount_0f7a4_3 : decode cJ6_bitCount_0f7a4 3 = .ok (.iushr, 1) := by decide +kernel
theorem dJ6_bitCount_0f7a4_4 : decode cJ6_bitCount_0f7a4 4 = .ok (.ldc_w 265, 3) := by decide +kernel
theorem dJ6_bitCount_0f7a4_7 : decode cJ6_bitCount_0f7a4 7 = .ok (.iand, 1) := by decide +kernel
theorem dJ6_bitCount_0f7a4_8 : decode cJ6_bitCount_0f7a4 8 = .ok (.isub, 1) := by decide +kernel
theorem dJ6_bitCount_0f7a4_9 : decode cJ6_bitCount_0f7a4 9 = .ok (.istore_n 0, 1) := by decide +kernel
theorem dJ6_bitCount_0f7a4_10 : decode cJ6_bitCount_0f7a4 10 = .ok (.iload_n 0, 1) := by decide +kernel
theorem dJ6_bitCount_0f7a4_11 : decode cJ6_bitCount_0f7a4 11 = .ok (.ldc_w 266, 3) := by decide +kernel
theorem dJ6_bitCount_0f7a4_14 : decode cJ6_bitCount_0f7a4 14 = .ok (.iand, 1) := by decide +kernel
theorem dJ6_bitCount_0f7a4_15 : decode cJ6_bitCount_0f7a4 15 = .ok (.iload_n 0, 1) := by decide +kernel
theorem dJ6_bitCount_0f7a4_16 : decode cJ6_bitCount_0f7a4 16 = .ok (.iconst 2, 1) := by decide +kernel
theorem dJ6_bitCount_0f7a4_17 : decode cJ6_bitCount_0f7a4 17 = .ok (.iushr, 1) := by decide +kernel
theorem dJ6_bitCount_0f7a4_18 : decode cJ6_bitCount_0f7a4 18 = .ok (.ldc_w 266, 3) := by decide +kernel
theorem dJ6_bitCount_0f7a4_21 : decode cJ6_bitCount_0f7a4 21 = .ok (.iand, 1) := by decide +kernel
theorem dJ6_bitCount_0f7a4_22 : decode cJ6_bitCount_0f7a4 22 = .ok (.iadd, 1) := by decide +kernel
theorem dJ6_bitCount_0f7a4_23 : decode cJ6_bitCount_0f7a4 23 = .ok (.istore_n 0, 1) := by decide +kernel
theorem dJ6_bitCount_0f7a4_24 : decode cJ6_bitCount_0f7a4 24 = .ok (.iload_n 0, 1) := by decide +kernel
theorem dJ6_bitCount_0f7a4_25 : decode cJ6_bitCount_0f7a4 25 = .ok (.iload_n 0, 1) := by decide +kernel
theorem dJ6_bitCount_0f7a4_26 : decode cJ6_bitCount_0f7a4 26 = .ok (.iconst 4, 1) := by decide +kernel
theorem dJ6_bitCount_0f7a4_27 : decode cJ6_bitCount_0f7a4 27 = .ok (.iushr, 1) := by decide +kernel
theorem dJ6_bitCount_0f7a4_28 : decode cJ6_bitCount_0f7a4 28 = .ok (.iadd, 1) := by decide +kernel
theorem dJ6_bitCount_0f7a4_29 : decode cJ6_bitCount_0f7a4 29 = .ok (.ldc_w 267, 3) := by decide +kernel
theorem dJ6_bitCount_0f7a4_32 : decode cJ6_bitCount_0f7a4 32 = .ok (.iand, 1) := by decide +kernel
theorem dJ6_bitCount_0f7a4_33 : decode cJ6_bitCount_0f7a4 33 = .ok (.istore_n 0, 1) := by decide +kernel
theorem dJ6_bitCount_0f7a4_34 : decode cJ6_bitCount_0f7a4 34 = .ok (.iload_n 0, 1) := by decide +kernel
theorem dJ6_bitCount_0f7a4_35 : decode cJ6_bitCount_0f7a4 35 = .ok (.iload_n 0, 1) := by decide +kernel
theorem dJ6_bitCount_0f7a4_36 : decode cJ6_bitCount_0f7a4 36 = .ok (.bipush 8, 2) := by decide +kernel
theorem dJ6_bitCount_0f7a4_38 : decode cJ6_bitCount_0f7a4 38 = .ok (.iushr, 1) := by decide +kernel
theorem dJ6_bitCount_0f7a4_39 : decode cJ6_bitCount_0f7a4 39 = .ok (.iadd, 1) := by decide +kernel
theorem dJ6_bitCount_0f7a4_40 : decode cJ6_bitCount_0f7a4 40 = .ok (.istore_n 0, 1) := by decide +kernel
theorem dJ6_bitCount_0f7a4_41 : decode cJ6_bitCount_0f7a4 41 = .ok (.iload_n 0, 1) := by decide +kernel
theorem dJ6_bitCount_0f7a4_42 : decode cJ6_bitCount_0f7a4 42 = .ok (.iload_n 0, 1) := by decide +kernel
theorem dJ6_bitCount_0f7a4_43 : decode cJ6_bitCount_0f7a4 43 = .ok (.bipush 16, 2) := by decide +kernel
theorem dJ6_bitCount_0f7a4_45 : decode cJ6_bitCount_0f7a4 45 = .ok (.iushr, 1) := by decide +kernel
theorem dJ6_bitCount_0f7a4_46 : decode cJ6_bitCount_0f7a4 46 = .ok (.iadd, 1) := by decide +kernel
theorem dJ6_bitCount_0f7a4_47 : decode cJ6_bitCount_0f7a4 47 = .ok (.istore_n 0, 1) := by decide +kernel
theorem dJ6_bitCount_0f7a4_48 : decode cJ6_bitCount_0f7a4 48 = .ok (.iload_n 0, 1) := by decide +kernel
theorem dJ6_bitCount_0f7a4_49 : decode cJ6_bitCount_0f7a4 49 = .ok (.bipush 63, 2) := by decide +kernel
theorem dJ6_bitCount_0f7a4_51 : decode cJ6_bitCount_0f7a4 51 = .ok (.iand, 1) := by decide +kernel
theorem dJ6_bitCount_0f7a4_52 : decode cJ6_bitCount_0f7a4 52 = .ok (.ireturn, 1) := by decide +kernel
theorem dJ9_max_7cf53_0 : decode cJ9_max_7cf53 0 = .ok (.iload_n 0, 1) := by decide +kernel
theorem dJ9_max_7cf53_1 : decode cJ9_max_7cf53 1 = .ok (.iload_n 1, 1) := by decide +kernel
theorem dJ9_max_7cf53_2 : decode cJ9_max_7cf53 2 = .ok (.if_icmp .lt 7, 3) := by decide +kernel
theorem dJ9_max_7cf53_5 : decode cJ9_max_7cf53 5 = .ok (.iload_n 0, 1) := by decide +kernel
theorem dJ9_max_7cf53_6 : decode cJ9_max_7cf53 6 = .ok (.goto 4, 3) := by decide +kernel
theorem dJ9_max_7cf53_9 : decode cJ9_max_7cf53 9 = .ok (.iload_n 1, 1) := by decide +kernel
theorem dJ9_max_7cf53_10 : decode cJ9_max_7cf53 10 = .ok (.ireturn, 1) := by decide +kernel
theorem dJ9_min_7cf53_0 : decode cJ9_min_7cf53 0 = .ok (.iload_n 0, 1) := by decide +kernel
theorem dJ9_min_7cf53_1 : decode cJ9_min_7cf53 1 = .ok (.iload_n 1, 1) := by decide +kernel
theorem dJ9_min_7cf53_2 : decode cJ9_min_7cf53 2 = .ok (.if_icmp .gt 7, 3) := by decide +kernel
theorem dJ9_min_7cf53_5 : decode cJ9_min_7cf53 5 = .ok (.iload_n 0, 1) := by decide +kernel
theorem dJ9_min_7cf53_6 : decode cJ9_min_7cf53 6 = .ok (.goto 4, 3) := by decide +kernel
theorem dJ9_min_7cf53_9 : decode cJ9_min_7cf53 9 = .ok (.iload_n 1, 1) := by decide +kernel
theorem dJ9_min_7cf53_10 : decode cJ9_min_7cf53 10 = .ok (.ireturn, 1) := by decide +kernel
theorem dX0_init_0 : decode cX0_init 0 = .ok (.aload_n 0, 1) := by decide +kernel
theorem dX0_init_1 : decode cX0_init 1 = .ok (.invokespecial 3, 3) := by decide +kernel
theorem dX0_init_4 : decode cX0_init 4 = .ok (.aload_n 0, 1) := by decide +kernel
theorem dX0_init_5 : decode cX0_init 5 = .ok (.bipush 96, 2) := by decide +kernel
theorem dX0_init_7 : decode cX0_init 7 = .ok (.newarray .int, 2) := by decide +kernel
theorem dX0_init_9 : decode cX0_init 9 = .ok (.putfield 9, 3) := by decide +kernel
theorem dX0_init_12 : decode cX0_init 12 = .ok (.aload_n 0, 1) := by decide +kernel
theorem dX0_init_13 : decode cX0_init 13 = .ok (.iconst 0, 1) := by decide +kernel
theorem dX0_init_14 : decode cX0_init 14 = .ok (.putfield 15, 3) := by decide +kernel
theorem dX0_init_17 : decode cX0_init 17 = .ok (.return_, 1) := by decide +kernel
theorem dX0_hasRoom_0 : decode cX0_hasRoom 0 = .ok (.aload_n 0, 1) := by decide +kernel
theorem dX0_hasRoom_1 : decode cX0_hasRoom 1 = .ok (.getfield 15, 3) := by decide +kernel
theorem dX0_hasRoom_4 : decode cX0_hasRoom 4 = .ok (.bipush 96, 2) := by decide +kernel
theorem dX0_hasRoom_6 : decode cX0_hasRoom 6 = .ok (.if_icmp .ge 7, 3) := by decide +kernel
theorem dX0_hasRoom_9 : decode cX0_hasRoom 9 = .ok (.iconst 1, 1) := by decide +kernel
theorem dX0_hasRoom_10 : decode cX0_hasRoom 10 = .ok (.goto 4, 3) := by decide +kernel
theorem dX0_hasRoom_13 : decode cX0_hasRoom 13 = .ok (.iconst 0, 1) := by decide +kernel
theorem dX0_hasRoom_14 : decode cX0_hasRoom 14 = .ok (.ireturn, 1) := by decide +kernel
set_option maxRecDepth 20000 in
theorem ggX0_take_X0_hasRoom : GoodIn wsX0_take wsX0_hasRoom := goodIn_r _ [7, 2, 8, 9] (by decide +kernel) (by decide +kernel)
set_option maxRecDepth 20000 in
theorem gX0_take_X0_hasRoom : GoodIn wsX0_take (wsV RX0 19 RX0 yX0_hasRoom wsX0_hasRoom) := goodIn_app (goodIn_of _ (by decide +kernel)) ggX0_take_X0_hasRoom
theorem dX0_take_0 : decode cX0_take 0 = .ok (.aload_n 0, 1) := by decide +kernel
theorem dX0_take_1 : decode cX0_take 1 = .ok (.invokevirtual 19, 3) := by decide +kernel
theorem dX0_take_4 : decode cX0_take 4 = .ok (.ifCond .eq 23, 3) := by decide +kernel
theorem dX0_take_7 : decode cX0_take 7 = .ok (.aload_n 0, 1) := by decide +kernel
theorem dX0_take_8 : decode cX0_take 8 = .ok (.getfield 9, 3) := by decide +kernel
theorem dX0_take_11 : decode cX0_take 11 = .ok (.aload_n 0, 1) := by decide +kernel
theorem dX0_take_12 : decode cX0_take 12 = .ok (.getfield 15, 3) := by decide +kernel
theorem dX0_take_15 : decode cX0_take 15 = .ok (.iload_n 1, 1) := by decide +kernel
theorem dX0_take_16 : decode cX0_take 16 = .ok (.iastore, 1) := by decide +kernel
theorem dX0_take_17 : decode cX0_take 17 = .ok (.aload_n 0, 1) := by decide +kernel
theorem dX0_take_18 : decode cX0_take 18 = .ok (.dup, 1) := by decide +kernel
theorem dX0_take_19 : decode cX0_take 19 = .ok (.getfield 15, 3) := by decide +kernel
theorem dX0_take_22 : decode cX0_take 22 = .ok (.iconst 1, 1) := by decide +kernel
theorem dX0_take_23 : decode cX0_take 23 = .ok (.iadd, 1) := by decide +kernel
theorem dX0_take_24 : decode cX0_take 24 = .ok (.putfield 15, 3) := by decide +kernel
theorem dX0_take_27 : decode cX0_take 27 = .ok (.aload_n 0, 1) := by decide +kernel
theorem dX0_take_28 : decode cX0_take 28 = .ok (.getfield 15, 3) := by decide +kernel
theorem dX0_take_31 : decode cX0_take 31 = .ok (.ireturn, 1) := by decide +kernel
theorem dX0_forget_0 : decode cX0_forget 0 = .ok (.aload_n 0, 1) := by decide +kernel
theorem dX0_forget_1 : decode cX0_forget 1 = .ok (.iconst 0, 1) := by decide +kernel
theorem dX0_forget_2 : decode cX0_forget 2 = .ok (.putfield 15, 3) := by decide +kernel
theorem dX0_forget_5 : decode cX0_forget 5 = .ok (.return_, 1) := by decide +kernel
set_option maxRecDepth 20000 in
theorem ggX0_formFault_X0_sign : GoodIn wsX0_formFault wsX0_sign := goodIn_r _ [6, 1, 7, 18, 19] (by decide +kernel) (by decide +kernel)
set_option maxRecDepth 20000 in
theorem gX0_formFault_X0_sign : GoodIn wsX0_formFault (wsV RX0 23 RX0 yX0_sign wsX0_sign) := goodIn_app (goodIn_of _ (by decide +kernel)) ggX0_formFault_X0_sign
set_option maxRecDepth 20000 in
theorem ggX0_formFault_X0_partsBehind : GoodIn wsX0_formFault wsX0_partsBehind := goodIn_r _ [10] (by decide +kernel) (by decide +kernel)
set_option maxRecDepth 20000 in
theorem gX0_formFault_X0_partsBehind : GoodIn wsX0_formFault (va_wsS RX0 27 yX0_partsBehind wsX0_partsBehind) := goodIn_app (goodIn_of _ (by decide +kernel)) ggX0_formFault_X0_partsBehind
set_option maxRecDepth 20000 in
theorem ggX0_formFault_X0_fits : GoodIn wsX0_formFault wsX0_fits := goodIn_r _ [14, 2, 3, 4, 5, 6, 1, 7, 15, 16, 17, 18, 19] (by decide +kernel) (by decide +kernel)
set_option maxRecDepth 20000 in
theorem gX0_formFault_X0_fits : GoodIn wsX0_formFault (wsV RX0 30 RX0 yX0_fits wsX0_fits) := goodIn_app (goodIn_of _ (by decide +kernel)) ggX0_formFault_X0_fits
theorem dX0_formFault_0 : decode cX0_formFault 0 = .ok (.aload_n 0, 1) := by decide +kernel
theorem dX0_formFault_1 : decode cX0_formFault 1 = .ok (.getfield 15, 3) := by decide +kernel
theorem dX0_formFault_4 : decode cX0_formFault 4 = .ok (.ifCond .ne 5, 3) := by decide +kernel
theorem dX0_formFault_7 : decode cX0_formFault 7 = .ok (.iconst 0, 1) := by decide +kernel
theorem dX0_formFault_8 : decode cX0_formFault 8 = .ok (.ireturn, 1) := by decide +kernel
theorem dX0_formFault_9 : decode cX0_formFault 9 = .ok (.iconst 0, 1) := by decide +kernel
theorem dX0_formFault_10 : decode cX0_formFault 10 = .ok (.istore_n 1, 1) := by decide +kernel
theorem dX0_formFault_11 : decode cX0_formFault 11 = .ok (.iload_n 1, 1) := by decide +kernel
theorem dX0_formFault_12 : decode cX0_formFault 12 = .ok (.aload_n 0, 1) := by decide +kernel
theorem dX0_formFault_13 : decode cX0_formFault 13 = .ok (.getfield 15, 3) := by decide +kernel
theorem dX0_formFault_16 : decode cX0_formFault 16 = .ok (.if_icmp .ge 71, 3) := by decide +kernel
theorem dX0_formFault_19 : decode cX0_formFault 19 = .ok (.aload_n 0, 1) := by decide +kernel
theorem dX0_formFault_20 : decode cX0_formFault 20 = .ok (.iload_n 1, 1) := by decide +kernel
theorem dX0_formFault_21 : decode cX0_formFault 21 = .ok (.invokevirtual 23, 3) := by decide +kernel
theorem dX0_formFault_24 : decode cX0_formFault 24 = .ok (.invokestatic 27, 3) := by decide +kernel
theorem dX0_formFault_27 : decode cX0_formFault 27 = .ok (.istore_n 2, 1) := by decide +kernel
theorem dX0_formFault_28 : decode cX0_formFault 28 = .ok (.iload_n 2, 1) := by decide +kernel
theorem dX0_formFault_29 : decode cX0_formFault 29 = .ok (.ifCond .ne 5, 3) := by decide +kernel
theorem dX0_formFault_32 : decode cX0_formFault 32 = .ok (.iload_n 1, 1) := by decide +kernel
theorem dX0_formFault_33 : decode cX0_formFault 33 = .ok (.ireturn, 1) := by decide +kernel
theorem dX0_formFault_34 : decode cX0_formFault 34 = .ok (.iconst 1, 1) := by decide +kernel
theorem dX0_formFault_35 : decode cX0_formFault 35 = .ok (.istore_n 3, 1) := by decide +kernel
theorem dX0_formFault_36 : decode cX0_formFault 36 = .ok (.iload_n 3, 1) := by decide +kernel
theorem dX0_formFault_37 : decode cX0_formFault 37 = .ok (.iload_n 2, 1) := by decide +kernel
theorem dX0_formFault_38 : decode cX0_formFault 38 = .ok (.iconst 1, 1) := by decide +kernel
theorem dX0_formFault_39 : decode cX0_formFault 39 = .ok (.iadd, 1) := by decide +kernel
theorem dX0_formFault_40 : decode cX0_formFault 40 = .ok (.if_icmp .gt 38, 3) := by decide +kernel
theorem dX0_formFault_43 : decode cX0_formFault 43 = .ok (.iload_n 1, 1) := by decide +kernel
theorem dX0_formFault_44 : decode cX0_formFault 44 = .ok (.iload_n 3, 1) := by decide +kernel
theorem dX0_formFault_45 : decode cX0_formFault 45 = .ok (.iadd, 1) := by decide +kernel
theorem dX0_formFault_46 : decode cX0_formFault 46 = .ok (.aload_n 0, 1) := by decide +kernel
theorem dX0_formFault_47 : decode cX0_formFault 47 = .ok (.getfield 15, 3) := by decide +kernel
theorem dX0_formFault_50 : decode cX0_formFault 50 = .ok (.if_icmp .lt 8, 3) := by decide +kernel
theorem dX0_formFault_53 : decode cX0_formFault 53 = .ok (.aload_n 0, 1) := by decide +kernel
theorem dX0_formFault_54 : decode cX0_formFault 54 = .ok (.getfield 15, 3) := by decide +kernel
theorem dX0_formFault_57 : decode cX0_formFault 57 = .ok (.ireturn, 1) := by decide +kernel
theorem dX0_formFault_58 : decode cX0_formFault 58 = .ok (.aload_n 0, 1) := by decide +kernel
theorem dX0_formFault_59 : decode cX0_formFault 59 = .ok (.iload_n 1, 1) := by decide +kernel
theorem dX0_formFault_60 : decode cX0_formFault 60 = .ok (.iload_n 3, 1) := by decide +kernel
theorem dX0_formFault_61 : decode cX0_formFault 61 = .ok (.iload_n 2, 1) := by decide +kernel
theorem dX0_formFault_62 : decode cX0_formFault 62 = .ok (.invokevirtual 30, 3) := by decide +kernel
theorem dX0_formFault_65 : decode cX0_formFault 65 = .ok (.ifCond .ne 7, 3) := by decide +kernel
theorem dX0_formFault_68 : decode cX0_formFault 68 = .ok (.iload_n 1, 1) := by decide +kernel
theorem dX0_formFault_69 : decode cX0_formFault 69 = .ok (.iload_n 3, 1) := by decide +kernel
theorem dX0_formFault_70 : decode cX0_formFault 70 = .ok (.iadd, 1) := by decide +kernel
theorem dX0_formFault_71 : decode cX0_formFault 71 = .ok (.ireturn, 1) := by decide +kernel
theorem dX0_formFault_72 : decode cX0_formFault 72 = .ok (.iinc 3 1, 3) := by decide +kernel
theorem dX0_formFault_75 : decode cX0_formFault 75 = .ok (.goto (-39), 3) := by decide +kernel
theorem dX0_formFault_78 : decode cX0_formFault 78 = .ok (.iload_n 1, 1) := by decide +kernel
theorem dX0_formFault_79 : decode cX0_formFault 79 = .ok (.iload_n 2, 1) := by decide +kernel
theorem dX0_formFault_80 : decode cX0_formFault 80 = .ok (.iconst 2, 1) := by decide +kernel
theorem dX0_formFault_81 : decode cX0_formFault 81 = .ok (.iadd, 1) := by decide +kernel
theorem dX0_formFault_82 : decode cX0_formFault 82 = .ok (.iadd, 1) := by decide +kernel
theorem dX0_formFault_83 : decode cX0_formFault 83 = .ok (.istore_n 1, 1) := by decide +kernel
theorem dX0_formFault_84 : decode cX0_formFault 84 = .ok (.goto (-73), 3) := by decide +kernel
theorem dX0_formFault_87 : decode cX0_formFault 87 = .ok (.bipush (-9), 2) := by decide +kernel
theorem dX0_formFault_89 : decode cX0_formFault 89 = .ok (.ireturn, 1) := by decide +kernel
theorem dX0_partsBehind_0 : decode cX0_partsBehind 0 = .ok (.iload_n 0, 1) := by decide +kernel
theorem dX0_partsBehind_1 : decode cX0_partsBehind 1 = .ok (.tableswitch 109 98 119 #[105, 109, 105, 109, 109, 109, 109, 109, 109, 109, 109, 109, 103, 109, 103, 109, 109, 105, 107, 109, 109, 105], 103) := by decide +kernel
theorem dX0_partsBehind_104 : decode cX0_partsBehind 104 = .ok (.iconst 1, 1) := by decide +kernel
theorem dX0_partsBehind_105 : decode cX0_partsBehind 105 = .ok (.ireturn, 1) := by decide +kernel
theorem dX0_partsBehind_106 : decode cX0_partsBehind 106 = .ok (.iconst 2, 1) := by decide +kernel
theorem dX0_partsBehind_107 : decode cX0_partsBehind 107 = .ok (.ireturn, 1) := by decide +kernel
theorem dX0_partsBehind_108 : decode cX0_partsBehind 108 = .ok (.iconst 3, 1) := by decide +kernel
theorem dX0_partsBehind_109 : decode cX0_partsBehind 109 = .ok (.ireturn, 1) := by decide +kernel
theorem dX0_partsBehind_110 : decode cX0_partsBehind 110 = .ok (.iconst 0, 1) := by decide +kernel
theorem dX0_partsBehind_111 : decode cX0_partsBehind 111 = .ok (.ireturn, 1) := by decide +kernel
set_option maxRecDepth 20000 in
theorem ggX0_fits_X0_sign : GoodIn wsX0_fits wsX0_sign := goodIn_r _ [5, 6, 7, 11, 12] (by decide +kernel) (by decide +kernel)
set_option maxRecDepth 20000 in
theorem gX0_fits_X0_sign : GoodIn wsX0_fits (wsV RX0 23 RX0 yX0_sign wsX0_sign) := goodIn_app (goodIn_of _ (by decide +kernel)) ggX0_fits_X0_sign
set_option maxRecDepth 20000 in
theorem ggX0_fits_X0_kindOf : GoodIn wsX0_fits wsX0_kindOf := goodIn_r _ [10] (by decide +kernel) (by decide +kernel)
set_option maxRecDepth 20000 in
theorem gX0_fits_X0_kindOf : GoodIn wsX0_fits (va_wsS RX0 34 yX0_kindOf wsX0_kindOf) := goodIn_app (goodIn_of _ (by decide +kernel)) ggX0_fits_X0_kindOf
theorem dX0_fits_0 : decode cX0_fits 0 = .ok (.aload_n 0, 1) := by decide +kernel
theorem dX0_fits_1 : decode cX0_fits 1 = .ok (.iload_n 1, 1) := by decide +kernel
theorem dX0_fits_2 : decode cX0_fits 2 = .ok (.iload_n 2, 1) := by decide +kernel
theorem dX0_fits_3 : decode cX0_fits 3 = .ok (.iadd, 1) := by decide +kernel
theorem dX0_fits_4 : decode cX0_fits 4 = .ok (.invokevirtual 23, 3) := by decide +kernel
theorem dX0_fits_7 : decode cX0_fits 7 = .ok (.istore 4, 2) := by decide +kernel
theorem dX0_fits_9 : decode cX0_fits 9 = .ok (.iload_n 2, 1) := by decide +kernel
theorem dX0_fits_10 : decode cX0_fits 10 = .ok (.iload_n 3, 1) := by decide +kernel
theorem dX0_fits_11 : decode cX0_fits 11 = .ok (.if_icmp .le 16, 3) := by decide +kernel
theorem dX0_fits_14 : decode cX0_fits 14 = .ok (.iload 4, 2) := by decide +kernel
theorem dX0_fits_16 : decode cX0_fits 16 = .ok (.bipush 59, 2) := by decide +kernel
theorem dX0_fits_18 : decode cX0_fits 18 = .ok (.if_icmp .ne 7, 3) := by decide +kernel
theorem dX0_fits_21 : decode cX0_fits 21 = .ok (.iconst 1, 1) := by decide +kernel
theorem dX0_fits_22 : decode cX0_fits 22 = .ok (.goto 4, 3) := by decide +kernel
theorem dX0_fits_25 : decode cX0_fits 25 = .ok (.iconst 0, 1) := by decide +kernel
theorem dX0_fits_26 : decode cX0_fits 26 = .ok (.ireturn, 1) := by decide +kernel
theorem dX0_fits_27 : decode cX0_fits 27 = .ok (.iload_n 2, 1) := by decide +kernel
theorem dX0_fits_28 : decode cX0_fits 28 = .ok (.iconst 1, 1) := by decide +kernel
theorem dX0_fits_29 : decode cX0_fits 29 = .ok (.if_icmp .ne 29, 3) := by decide +kernel
theorem dX0_fits_32 : decode cX0_fits 32 = .ok (.aload_n 0, 1) := by decide +kernel
theorem dX0_fits_33 : decode cX0_fits 33 = .ok (.iload_n 1, 1) := by decide +kernel
theorem dX0_fits_34 : decode cX0_fits 34 = .ok (.invokevirtual 23, 3) := by decide +kernel
theorem dX0_fits_37 : decode cX0_fits 37 = .ok (.bipush 116, 2) := by decide +kernel
theorem dX0_fits_39 : decode cX0_fits 39 = .ok (.if_icmp .ne 19, 3) := by decide +kernel
theorem dX0_fits_42 : decode cX0_fits 42 = .ok (.iload 4, 2) := by decide +kernel
theorem dX0_fits_44 : decode cX0_fits 44 = .ok (.invokestatic 34, 3) := by decide +kernel
theorem dX0_fits_47 : decode cX0_fits 47 = .ok (.bipush (-9), 2) := by decide +kernel
theorem dX0_fits_49 : decode cX0_fits 49 = .ok (.if_icmp .eq 7, 3) := by decide +kernel
theorem dX0_fits_52 : decode cX0_fits 52 = .ok (.iconst 1, 1) := by decide +kernel
theorem dX0_fits_53 : decode cX0_fits 53 = .ok (.goto 4, 3) := by decide +kernel
theorem dX0_fits_56 : decode cX0_fits 56 = .ok (.iconst 0, 1) := by decide +kernel
theorem dX0_fits_57 : decode cX0_fits 57 = .ok (.ireturn, 1) := by decide +kernel
theorem dX0_fits_58 : decode cX0_fits 58 = .ok (.iload 4, 2) := by decide +kernel
theorem dX0_fits_60 : decode cX0_fits 60 = .ok (.bipush 48, 2) := by decide +kernel
theorem dX0_fits_62 : decode cX0_fits 62 = .ok (.if_icmp .lt 14, 3) := by decide +kernel
theorem dX0_fits_65 : decode cX0_fits 65 = .ok (.iload 4, 2) := by decide +kernel
theorem dX0_fits_67 : decode cX0_fits 67 = .ok (.bipush 57, 2) := by decide +kernel
theorem dX0_fits_69 : decode cX0_fits 69 = .ok (.if_icmp .gt 7, 3) := by decide +kernel
theorem dX0_fits_72 : decode cX0_fits 72 = .ok (.iconst 1, 1) := by decide +kernel
theorem dX0_fits_73 : decode cX0_fits 73 = .ok (.goto 4, 3) := by decide +kernel
theorem dX0_fits_76 : decode cX0_fits 76 = .ok (.iconst 0, 1) := by decide +kernel
theorem dX0_fits_77 : decode cX0_fits 77 = .ok (.ireturn, 1) := by decide +kernel
theorem dX0_kindOf_0 : decode cX0_kindOf 0 = .ok (.iload_n 0, 1) := by decide +kernel
theorem dX0_kindOf_1 : decode cX0_kindOf 1 = .ok (.lookupswitch 71 #[(99, 61), (103, 63), (107, 67), (108, 69), (116, 59), (119, 65)], 59) := by decide +kernel
theorem dX0_kindOf_60 : decode cX0_kindOf 60 = .ok (.iconst 0, 1) := by decide +kernel
theorem dX0_kindOf_61 : decode cX0_kindOf 61 = .ok (.ireturn, 1) := by decide +kernel
theorem dX0_kindOf_62 : decode cX0_kindOf 62 = .ok (.iconst 1, 1) := by decide +kernel
theorem dX0_kindOf_63 : decode cX0_kindOf 63 = .ok (.ireturn, 1) := by decide +kernel
theorem dX0_kindOf_64 : decode cX0_kindOf 64 = .ok (.iconst 2, 1) := by decide +kernel
theorem dX0_kindOf_65 : decode cX0_kindOf 65 = .ok (.ireturn, 1) := by decide +kernel
theorem dX0_kindOf_66 : decode cX0_kindOf 66 = .ok (.iconst 3, 1) := by decide +kernel
theorem dX0_kindOf_67 : decode cX0_kindOf 67 = .ok (.ireturn, 1) := by decide +kernel
theorem dX0_kindOf_68 : decode cX0_kindOf 68 = .ok (.iconst 4, 1) := by decide +kernel
theorem dX0_kindOf_69 : decode cX0_kindOf 69 = .ok (.ireturn, 1) := by decide +kernel
theorem dX0_kindOf_70 : decode cX0_kindOf 70 = .ok (.iconst 5, 1) := by decide +kernel
theorem dX0_kindOf_71 : decode cX0_kindOf 71 = .ok (.ireturn, 1) := by decide +kernel
theorem dX0_kindOf_72 : decode cX0_kindOf 72 = .ok (.bipush (-9), 2) := by decide +kernel
theorem dX0_kindOf_74 : decode cX0_kindOf 74 = .ok (.ireturn, 1) := by decide +kernel
set_option maxRecDepth 20000 in
theorem ggX0_tellTo_X0_tellOne : GoodIn wsX0_tellTo wsX0_tellOne := goodIn_r _ [6, 7, 8, 9, 10, 5, 11, 1, 12, 13, 14, 15, 16, 17, 18, 19, 20, 21, 22, 23, 24, 25, 26, 27, 28, 29, 30, 31, 32, 33, 34, 35, 36, 37, 38, 39, 40, 41, 42, 43, 44, 45, 46, 47, 48, 49, 50, 51, 52, 53, 54, 55, 56, 57, 58, 59, 60, 61, 62, 63, 64, 65, 66, 67, 68, 69, 70, 71, 72, 73, 74, 75, 76, 77, 78, 79, 80, 81, 82, 83, 84, 85, 86, 87, 88, 89, 90, 91, 92, 93, 94, 95, 101, 102, 103, 104, 105, 106, 107, 108, 109, 110, 99, 100] (by decide +kernel) (by decide +kernel)
set_option maxRecDepth 20000 in
theorem gX0_tellTo_X0_tellOne : GoodIn wsX0_tellTo (wsV RX0 37 RX0 yX0_tellOne wsX0_tellOne) := goodIn_app (goodIn_of _ (by decide +kernel)) ggX0_tellTo_X0_tellOne
set_option maxRecDepth 20000 in
theorem ggX0_tellTo_X0_sign : GoodIn wsX0_tellTo wsX0_sign := goodIn_r _ [11, 1, 12, 99, 100] (by decide +kernel) (by decide +kernel)
set_option maxRecDepth 20000 in
theorem gX0_tellTo_X0_sign : GoodIn wsX0_tellTo (wsV RX0 23 RX0 yX0_sign wsX0_sign) := goodIn_app (goodIn_of _ (by decide +kernel)) ggX0_tellTo_X0_sign
set_option maxRecDepth 20000 in
theorem ggX0_tellTo_X0_partsBehind : GoodIn wsX0_tellTo wsX0_partsBehind := goodIn_r _ [98] (by decide +kernel) (by decide +kernel)
set_option maxRecDepth 20000 in
theorem gX0_tellTo_X0_partsBehind : GoodIn wsX0_tellTo (va_wsS RX0 27 yX0_partsBehind wsX0_partsBehind) := goodIn_app (goodIn_of _ (by decide +kernel)) ggX0_tellTo_X0_partsBehind
theorem dX0_tellTo_0 : decode cX0_tellTo 0 = .ok (.iconst 0, 1) := by decide +kernel
theorem dX0_tellTo_1 : decode cX0_tellTo 1 = .ok (.istore_n 2, 1) := by decide +kernel
theorem dX0_tellTo_2 : decode cX0_tellTo 2 = .ok (.iconst 0, 1) := by decide +kernel
theorem dX0_tellTo_3 : decode cX0_tellTo 3 = .ok (.istore_n 3, 1) := by decide +kernel
theorem dX0_tellTo_4 : decode cX0_tellTo 4 = .ok (.iload_n 3, 1) := by decide +kernel
theorem dX0_tellTo_5 : decode cX0_tellTo 5 = .ok (.aload_n 0, 1) := by decide +kernel
theorem dX0_tellTo_6 : decode cX0_tellTo 6 = .ok (.getfield 15, 3) := by decide +kernel
theorem dX0_tellTo_9 : decode cX0_tellTo 9 = .ok (.if_icmp .ge 37, 3) := by decide +kernel
theorem dX0_tellTo_12 : decode cX0_tellTo 12 = .ok (.aload_n 0, 1) := by decide +kernel
theorem dX0_tellTo_13 : decode cX0_tellTo 13 = .ok (.aload_n 1, 1) := by decide +kernel
theorem dX0_tellTo_14 : decode cX0_tellTo 14 = .ok (.iload_n 3, 1) := by decide +kernel
theorem dX0_tellTo_15 : decode cX0_tellTo 15 = .ok (.invokevirtual 37, 3) := by decide +kernel
theorem dX0_tellTo_18 : decode cX0_tellTo 18 = .ok (.ifCond .ne 9, 3) := by decide +kernel
theorem dX0_tellTo_21 : decode cX0_tellTo 21 = .ok (.sipush (-2000), 3) := by decide +kernel
theorem dX0_tellTo_24 : decode cX0_tellTo 24 = .ok (.iload_n 3, 1) := by decide +kernel
theorem dX0_tellTo_25 : decode cX0_tellTo 25 = .ok (.isub, 1) := by decide +kernel
theorem dX0_tellTo_26 : decode cX0_tellTo 26 = .ok (.ireturn, 1) := by decide +kernel
theorem dX0_tellTo_27 : decode cX0_tellTo 27 = .ok (.iinc 2 1, 3) := by decide +kernel
theorem dX0_tellTo_30 : decode cX0_tellTo 30 = .ok (.iload_n 3, 1) := by decide +kernel
theorem dX0_tellTo_31 : decode cX0_tellTo 31 = .ok (.aload_n 0, 1) := by decide +kernel
theorem dX0_tellTo_32 : decode cX0_tellTo 32 = .ok (.iload_n 3, 1) := by decide +kernel
theorem dX0_tellTo_33 : decode cX0_tellTo 33 = .ok (.invokevirtual 23, 3) := by decide +kernel
theorem dX0_tellTo_36 : decode cX0_tellTo 36 = .ok (.invokestatic 27, 3) := by decide +kernel
theorem dX0_tellTo_39 : decode cX0_tellTo 39 = .ok (.iconst 2, 1) := by decide +kernel
theorem dX0_tellTo_40 : decode cX0_tellTo 40 = .ok (.iadd, 1) := by decide +kernel
theorem dX0_tellTo_41 : decode cX0_tellTo 41 = .ok (.iadd, 1) := by decide +kernel
theorem dX0_tellTo_42 : decode cX0_tellTo 42 = .ok (.istore_n 3, 1) := by decide +kernel
theorem dX0_tellTo_43 : decode cX0_tellTo 43 = .ok (.goto (-39), 3) := by decide +kernel
theorem dX0_tellTo_46 : decode cX0_tellTo 46 = .ok (.iload_n 2, 1) := by decide +kernel
theorem dX0_tellTo_47 : decode cX0_tellTo 47 = .ok (.ireturn, 1) := by decide +kernel
set_option maxRecDepth 20000 in
theorem ggX0_tellOne_X0_sign : GoodIn wsX0_tellOne wsX0_sign := goodIn_r _ [6, 7, 8, 102, 103] (by decide +kernel) (by decide +kernel)
set_option maxRecDepth 20000 in
theorem gX0_tellOne_X0_sign : GoodIn wsX0_tellOne (wsV RX0 23 RX0 yX0_sign wsX0_sign) := goodIn_app (goodIn_of _ (by decide +kernel)) ggX0_tellOne_X0_sign
set_option maxRecDepth 20000 in
theorem ggX0_tellOne_X2_addPerson : GoodIn wsX0_tellOne wsX2_addPerson := goodIn_r _ [13, 14, 15, 16, 92, 93, 94, 95, 96, 97, 98, 99, 100, 101] (by decide +kernel) (by decide +kernel)
set_option maxRecDepth 20000 in
theorem gX0_tellOne_X2_addPerson : GoodIn wsX0_tellOne (wsV RX0 41 RX2 yX2_addPerson wsX2_addPerson) := goodIn_app (goodIn_of _ (by decide +kernel)) ggX0_tellOne_X2_addPerson
set_option maxRecDepth 20000 in
theorem ggX0_tellOne_X0_kindOf : GoodIn wsX0_tellOne wsX0_kindOf := goodIn_r _ [19] (by decide +kernel) (by decide +kernel)
set_option maxRecDepth 20000 in
theorem gX0_tellOne_X0_kindOf : GoodIn wsX0_tellOne (va_wsS RX0 34 yX0_kindOf wsX0_kindOf) := goodIn_app (goodIn_of _ (by decide +kernel)) ggX0_tellOne_X0_kindOf
set_option maxRecDepth 20000 in
theorem ggX0_tellOne_X2_addThing : GoodIn wsX0_tellOne wsX2_addThing := goodIn_r _ [23, 24, 25, 26, 27, 28, 29, 30, 31, 32, 12, 33, 14, 92, 93, 94, 95, 96, 97, 98, 99, 100, 101] (by decide +kernel) (by decide +kernel)
set_option maxRecDepth 20000 in
theorem gX0_tellOne_X2_addThing : GoodIn wsX0_tellOne (wsV RX0 47 RX2 yX2_addThing wsX2_addThing) := goodIn_app (goodIn_of _ (by decide +kernel)) ggX0_tellOne_X2_addThing
set_option maxRecDepth 20000 in
theorem ggX0_tellOne_X2_isPerson : GoodIn wsX0_tellOne wsX2_isPerson := goodIn_r _ [33, 14, 92, 93, 94, 95, 96, 97, 98, 99, 100, 101] (by decide +kernel) (by decide +kernel)
set_option maxRecDepth 20000 in
theorem gX0_tellOne_X2_isPerson : GoodIn wsX0_tellOne (wsV RX0 50 RX2 yX2_isPerson wsX2_isPerson) := goodIn_app (goodIn_of _ (by decide +kernel)) ggX0_tellOne_X2_isPerson
set_option maxRecDepth 20000 in
theorem ggX0_tellOne_X0_tellBroken : GoodIn wsX0_tellOne wsX0_tellBroken := goodIn_r _ [37, 38, 39, 40, 41, 12, 42, 24, 92, 93, 94, 95, 96, 97, 98, 99, 100, 101] (by decide +kernel) (by decide +kernel)
set_option maxRecDepth 20000 in
theorem gX0_tellOne_X0_tellBroken : GoodIn wsX0_tellOne (va_wsS RX0 53 yX0_tellBroken wsX0_tellBroken) := goodIn_app (goodIn_of _ (by decide +kernel)) ggX0_tellOne_X0_tellBroken
set_option maxRecDepth 20000 in
theorem ggX0_tellOne_X0_tellWear : GoodIn wsX0_tellOne wsX0_tellWear := goodIn_r _ [45, 46, 39, 40, 41, 12, 42, 24, 92, 93, 94, 95, 96, 97, 98, 99, 100, 101] (by decide +kernel) (by decide +kernel)
set_option maxRecDepth 20000 in
theorem gX0_tellOne_X0_tellWear : GoodIn wsX0_tellOne (va_wsS RX0 57 yX0_tellWear wsX0_tellWear) := goodIn_app (goodIn_of _ (by decide +kernel)) ggX0_tellOne_X0_tellWear
set_option maxRecDepth 20000 in
theorem ggX0_tellOne_X2_pass : GoodIn wsX0_tellOne wsX2_pass := goodIn_r _ [50, 51, 14, 52, 53, 54, 12, 55, 24, 56, 57, 58, 59, 29, 60, 61, 62, 63, 25, 26, 64, 65, 66, 67, 28, 68, 69, 70, 71, 72, 73, 74, 75, 76, 77, 78, 79, 15, 80, 81, 82, 83, 84, 85, 86, 87, 27, 30, 31, 32, 33, 88, 89, 90, 91, 16, 92, 93, 94, 95, 96, 97, 98, 99, 100, 101] (by decide +kernel) (by decide +kernel)
set_option maxRecDepth 20000 in
theorem gX0_tellOne_X2_pass : GoodIn wsX0_tellOne (wsV RX0 64 RX2 yX2_pass wsX2_pass) := goodIn_app (goodIn_of _ (by decide +kernel)) ggX0_tellOne_X2_pass
theorem dX0_tellOne_0 : decode cX0_tellOne 0 = .ok (.aload_n 0, 1) := by decide +kernel
theorem dX0_tellOne_1 : decode cX0_tellOne 1 = .ok (.iload_n 2, 1) := by decide +kernel
theorem dX0_tellOne_2 : decode cX0_tellOne 2 = .ok (.iconst 1, 1) := by decide +kernel
theorem dX0_tellOne_3 : decode cX0_tellOne 3 = .ok (.iadd, 1) := by decide +kernel
theorem dX0_tellOne_4 : decode cX0_tellOne 4 = .ok (.invokevirtual 23, 3) := by decide +kernel
theorem dX0_tellOne_7 : decode cX0_tellOne 7 = .ok (.bipush 48, 2) := by decide +kernel
theorem dX0_tellOne_9 : decode cX0_tellOne 9 = .ok (.isub, 1) := by decide +kernel
theorem dX0_tellOne_10 : decode cX0_tellOne 10 = .ok (.istore_n 3, 1) := by decide +kernel
theorem dX0_tellOne_11 : decode cX0_tellOne 11 = .ok (.aload_n 0, 1) := by decide +kernel
theorem dX0_tellOne_12 : decode cX0_tellOne 12 = .ok (.iload_n 2, 1) := by decide +kernel
theorem dX0_tellOne_13 : decode cX0_tellOne 13 = .ok (.iconst 2, 1) := by decide +kernel
theorem dX0_tellOne_14 : decode cX0_tellOne 14 = .ok (.iadd, 1) := by decide +kernel
theorem dX0_tellOne_15 : decode cX0_tellOne 15 = .ok (.invokevirtual 23, 3) := by decide +kernel
theorem dX0_tellOne_18 : decode cX0_tellOne 18 = .ok (.bipush 48, 2) := by decide +kernel
theorem dX0_tellOne_20 : decode cX0_tellOne 20 = .ok (.isub, 1) := by decide +kernel
theorem dX0_tellOne_21 : decode cX0_tellOne 21 = .ok (.istore 4, 2) := by decide +kernel
theorem dX0_tellOne_23 : decode cX0_tellOne 23 = .ok (.aload_n 0, 1) := by decide +kernel
theorem dX0_tellOne_24 : decode cX0_tellOne 24 = .ok (.iload_n 2, 1) := by decide +kernel
theorem dX0_tellOne_25 : decode cX0_tellOne 25 = .ok (.invokevirtual 23, 3) := by decide +kernel
theorem dX0_tellOne_28 : decode cX0_tellOne 28 = .ok (.lookupswitch 163 #[(98, 93), (110, 119), (112, 60), (115, 129), (116, 66), (119, 155)], 60) := by decide +kernel
theorem dX0_tellOne_88 : decode cX0_tellOne 88 = .ok (.aload_n 1, 1) := by decide +kernel
theorem dX0_tellOne_89 : decode cX0_tellOne 89 = .ok (.iload_n 3, 1) := by decide +kernel
theorem dX0_tellOne_90 : decode cX0_tellOne 90 = .ok (.invokevirtual 41, 3) := by decide +kernel
theorem dX0_tellOne_93 : decode cX0_tellOne 93 = .ok (.ireturn, 1) := by decide +kernel
theorem dX0_tellOne_94 : decode cX0_tellOne 94 = .ok (.aload_n 1, 1) := by decide +kernel
theorem dX0_tellOne_95 : decode cX0_tellOne 95 = .ok (.aload_n 0, 1) := by decide +kernel
theorem dX0_tellOne_96 : decode cX0_tellOne 96 = .ok (.iload_n 2, 1) := by decide +kernel
theorem dX0_tellOne_97 : decode cX0_tellOne 97 = .ok (.iconst 1, 1) := by decide +kernel
theorem dX0_tellOne_98 : decode cX0_tellOne 98 = .ok (.iadd, 1) := by decide +kernel
theorem dX0_tellOne_99 : decode cX0_tellOne 99 = .ok (.invokevirtual 23, 3) := by decide +kernel
theorem dX0_tellOne_102 : decode cX0_tellOne 102 = .ok (.invokestatic 34, 3) := by decide +kernel
theorem dX0_tellOne_105 : decode cX0_tellOne 105 = .ok (.iload 4, 2) := by decide +kernel
theorem dX0_tellOne_107 : decode cX0_tellOne 107 = .ok (.aload_n 0, 1) := by decide +kernel
theorem dX0_tellOne_108 : decode cX0_tellOne 108 = .ok (.iload_n 2, 1) := by decide +kernel
theorem dX0_tellOne_109 : decode cX0_tellOne 109 = .ok (.iconst 3, 1) := by decide +kernel
theorem dX0_tellOne_110 : decode cX0_tellOne 110 = .ok (.iadd, 1) := by decide +kernel
theorem dX0_tellOne_111 : decode cX0_tellOne 111 = .ok (.invokevirtual 23, 3) := by decide +kernel
theorem dX0_tellOne_114 : decode cX0_tellOne 114 = .ok (.bipush 48, 2) := by decide +kernel
theorem dX0_tellOne_116 : decode cX0_tellOne 116 = .ok (.isub, 1) := by decide +kernel
theorem dX0_tellOne_117 : decode cX0_tellOne 117 = .ok (.invokevirtual 47, 3) := by decide +kernel
theorem dX0_tellOne_120 : decode cX0_tellOne 120 = .ok (.ireturn, 1) := by decide +kernel
theorem dX0_tellOne_121 : decode cX0_tellOne 121 = .ok (.aload_n 1, 1) := by decide +kernel
theorem dX0_tellOne_122 : decode cX0_tellOne 122 = .ok (.iload_n 3, 1) := by decide +kernel
theorem dX0_tellOne_123 : decode cX0_tellOne 123 = .ok (.invokevirtual 50, 3) := by decide +kernel
theorem dX0_tellOne_126 : decode cX0_tellOne 126 = .ok (.ifCond .eq 19, 3) := by decide +kernel
theorem dX0_tellOne_129 : decode cX0_tellOne 129 = .ok (.aload_n 1, 1) := by decide +kernel
theorem dX0_tellOne_130 : decode cX0_tellOne 130 = .ok (.iload 4, 2) := by decide +kernel
theorem dX0_tellOne_132 : decode cX0_tellOne 132 = .ok (.bipush (-9), 2) := by decide +kernel
theorem dX0_tellOne_134 : decode cX0_tellOne 134 = .ok (.iload_n 3, 1) := by decide +kernel
theorem dX0_tellOne_135 : decode cX0_tellOne 135 = .ok (.invokestatic 53, 3) := by decide +kernel
theorem dX0_tellOne_138 : decode cX0_tellOne 138 = .ok (.ifCond .eq 7, 3) := by decide +kernel
theorem dX0_tellOne_141 : decode cX0_tellOne 141 = .ok (.iconst 1, 1) := by decide +kernel
theorem dX0_tellOne_142 : decode cX0_tellOne 142 = .ok (.goto 4, 3) := by decide +kernel
theorem dX0_tellOne_145 : decode cX0_tellOne 145 = .ok (.iconst 0, 1) := by decide +kernel
theorem dX0_tellOne_146 : decode cX0_tellOne 146 = .ok (.ireturn, 1) := by decide +kernel
theorem dX0_tellOne_147 : decode cX0_tellOne 147 = .ok (.aload_n 1, 1) := by decide +kernel
theorem dX0_tellOne_148 : decode cX0_tellOne 148 = .ok (.iload_n 3, 1) := by decide +kernel
theorem dX0_tellOne_149 : decode cX0_tellOne 149 = .ok (.bipush (-9), 2) := by decide +kernel
theorem dX0_tellOne_151 : decode cX0_tellOne 151 = .ok (.bipush (-8), 2) := by decide +kernel
theorem dX0_tellOne_153 : decode cX0_tellOne 153 = .ok (.invokestatic 53, 3) := by decide +kernel
theorem dX0_tellOne_156 : decode cX0_tellOne 156 = .ok (.ireturn, 1) := by decide +kernel
theorem dX0_tellOne_157 : decode cX0_tellOne 157 = .ok (.aload_n 1, 1) := by decide +kernel
theorem dX0_tellOne_158 : decode cX0_tellOne 158 = .ok (.iload_n 3, 1) := by decide +kernel
theorem dX0_tellOne_159 : decode cX0_tellOne 159 = .ok (.invokevirtual 50, 3) := by decide +kernel
theorem dX0_tellOne_162 : decode cX0_tellOne 162 = .ok (.ifCond .eq 19, 3) := by decide +kernel
theorem dX0_tellOne_165 : decode cX0_tellOne 165 = .ok (.aload_n 1, 1) := by decide +kernel
theorem dX0_tellOne_166 : decode cX0_tellOne 166 = .ok (.iload 4, 2) := by decide +kernel
theorem dX0_tellOne_168 : decode cX0_tellOne 168 = .ok (.bipush (-8), 2) := by decide +kernel
theorem dX0_tellOne_170 : decode cX0_tellOne 170 = .ok (.iload_n 3, 1) := by decide +kernel
theorem dX0_tellOne_171 : decode cX0_tellOne 171 = .ok (.invokestatic 53, 3) := by decide +kernel
theorem dX0_tellOne_174 : decode cX0_tellOne 174 = .ok (.ifCond .eq 7, 3) := by decide +kernel
theorem dX0_tellOne_177 : decode cX0_tellOne 177 = .ok (.iconst 1, 1) := by decide +kernel
theorem dX0_tellOne_178 : decode cX0_tellOne 178 = .ok (.goto 4, 3) := by decide +kernel
theorem dX0_tellOne_181 : decode cX0_tellOne 181 = .ok (.iconst 0, 1) := by decide +kernel
theorem dX0_tellOne_182 : decode cX0_tellOne 182 = .ok (.ireturn, 1) := by decide +kernel
theorem dX0_tellOne_183 : decode cX0_tellOne 183 = .ok (.aload_n 1, 1) := by decide +kernel
theorem dX0_tellOne_184 : decode cX0_tellOne 184 = .ok (.iload_n 3, 1) := by decide +kernel
theorem dX0_tellOne_185 : decode cX0_tellOne 185 = .ok (.iload 4, 2) := by decide +kernel
theorem dX0_tellOne_187 : decode cX0_tellOne 187 = .ok (.invokestatic 57, 3) := by decide +kernel
theorem dX0_tellOne_190 : decode cX0_tellOne 190 = .ok (.ireturn, 1) := by decide +kernel
theorem dX0_tellOne_191 : decode cX0_tellOne 191 = .ok (.bipush 10, 2) := by decide +kernel
theorem dX0_tellOne_193 : decode cX0_tellOne 193 = .ok (.iload_n 3, 1) := by decide +kernel
theorem dX0_tellOne_194 : decode cX0_tellOne 194 = .ok (.imul, 1) := by decide +kernel
theorem dX0_tellOne_195 : decode cX0_tellOne 195 = .ok (.iload 4, 2) := by decide +kernel
theorem dX0_tellOne_197 : decode cX0_tellOne 197 = .ok (.iadd, 1) := by decide +kernel
theorem dX0_tellOne_198 : decode cX0_tellOne 198 = .ok (.istore 5, 2) := by decide +kernel
theorem dX0_tellOne_200 : decode cX0_tellOne 200 = .ok (.iload 5, 2) := by decide +kernel
theorem dX0_tellOne_202 : decode cX0_tellOne 202 = .ok (.iconst 1, 1) := by decide +kernel
theorem dX0_tellOne_203 : decode cX0_tellOne 203 = .ok (.if_icmp .lt 23, 3) := by decide +kernel
theorem dX0_tellOne_206 : decode cX0_tellOne 206 = .ok (.iload 5, 2) := by decide +kernel
theorem dX0_tellOne_208 : decode cX0_tellOne 208 = .ok (.bipush 60, 2) := by decide +kernel
theorem dX0_tellOne_210 : decode cX0_tellOne 210 = .ok (.if_icmp .gt 16, 3) := by decide +kernel
theorem dX0_tellOne_213 : decode cX0_tellOne 213 = .ok (.aload_n 1, 1) := by decide +kernel
theorem dX0_tellOne_214 : decode cX0_tellOne 214 = .ok (.getfield 61, 3) := by decide +kernel
theorem dX0_tellOne_217 : decode cX0_tellOne 217 = .ok (.iload 5, 2) := by decide +kernel
theorem dX0_tellOne_219 : decode cX0_tellOne 219 = .ok (.iadd, 1) := by decide +kernel
theorem dX0_tellOne_220 : decode cX0_tellOne 220 = .ok (.sipush 999, 3) := by decide +kernel
theorem dX0_tellOne_223 : decode cX0_tellOne 223 = .ok (.if_icmp .le 5, 3) := by decide +kernel
theorem dX0_tellOne_226 : decode cX0_tellOne 226 = .ok (.iconst 0, 1) := by decide +kernel
theorem dX0_tellOne_227 : decode cX0_tellOne 227 = .ok (.ireturn, 1) := by decide +kernel
theorem dX0_tellOne_228 : decode cX0_tellOne 228 = .ok (.aload_n 1, 1) := by decide +kernel
theorem dX0_tellOne_229 : decode cX0_tellOne 229 = .ok (.iload 5, 2) := by decide +kernel
theorem dX0_tellOne_231 : decode cX0_tellOne 231 = .ok (.iconst 1, 1) := by decide +kernel
theorem dX0_tellOne_232 : decode cX0_tellOne 232 = .ok (.bipush (-9), 2) := by decide +kernel
theorem dX0_tellOne_234 : decode cX0_tellOne 234 = .ok (.invokevirtual 64, 3) := by decide +kernel
theorem dX0_tellOne_237 : decode cX0_tellOne 237 = .ok (.iconst 1, 1) := by decide +kernel
theorem dX0_tellOne_238 : decode cX0_tellOne 238 = .ok (.ireturn, 1) := by decide +kernel
theorem dX0_sign_0 : decode cX0_sign 0 = .ok (.iload_n 1, 1) := by decide +kernel
theorem dX0_sign_1 : decode cX0_sign 1 = .ok (.ifCond .lt 20, 3) := by decide +kernel
theorem dX0_sign_4 : decode cX0_sign 4 = .ok (.iload_n 1, 1) := by decide +kernel
theorem dX0_sign_5 : decode cX0_sign 5 = .ok (.aload_n 0, 1) := by decide +kernel
theorem dX0_sign_6 : decode cX0_sign 6 = .ok (.getfield 15, 3) := by decide +kernel
theorem dX0_sign_9 : decode cX0_sign 9 = .ok (.if_icmp .ge 12, 3) := by decide +kernel
theorem dX0_sign_12 : decode cX0_sign 12 = .ok (.aload_n 0, 1) := by decide +kernel
theorem dX0_sign_13 : decode cX0_sign 13 = .ok (.getfield 9, 3) := by decide +kernel
theorem dX0_sign_16 : decode cX0_sign 16 = .ok (.iload_n 1, 1) := by decide +kernel
theorem dX0_sign_17 : decode cX0_sign 17 = .ok (.iaload, 1) := by decide +kernel
theorem dX0_sign_18 : decode cX0_sign 18 = .ok (.goto 4, 3) := by decide +kernel
theorem dX0_sign_21 : decode cX0_sign 21 = .ok (.iconst 0, 1) := by decide +kernel
theorem dX0_sign_22 : decode cX0_sign 22 = .ok (.ireturn, 1) := by decide +kernel
set_option maxRecDepth 20000 in
theorem ggX0_tellBroken_X2_isThing : GoodIn wsX0_tellBroken wsX2_isThing := goodIn_r _ [6, 7, 8, 9, 10, 11, 12, 13, 14, 15, 16, 17] (by decide +kernel) (by decide +kernel)
set_option maxRecDepth 20000 in
theorem gX0_tellBroken_X2_isThing : GoodIn wsX0_tellBroken (wsV RX0 68 RX2 yX2_isThing wsX2_isThing) := goodIn_app (goodIn_of _ (by decide +kernel)) ggX0_tellBroken_X2_isThing
theorem dX0_tellBroken_0 : decode cX0_tellBroken 0 = .ok (.aload_n 0, 1) := by decide +kernel
theorem dX0_tellBroken_1 : decode cX0_tellBroken 1 = .ok (.iload_n 1, 1) := by decide +kernel
theorem dX0_tellBroken_2 : decode cX0_tellBroken 2 = .ok (.invokevirtual 68, 3) := by decide +kernel
theorem dX0_tellBroken_5 : decode cX0_tellBroken 5 = .ok (.ifCond .eq 13, 3) := by decide +kernel
theorem dX0_tellBroken_8 : decode cX0_tellBroken 8 = .ok (.aload_n 0, 1) := by decide +kernel
theorem dX0_tellBroken_9 : decode cX0_tellBroken 9 = .ok (.getfield 71, 3) := by decide +kernel
theorem dX0_tellBroken_12 : decode cX0_tellBroken 12 = .ok (.iload_n 1, 1) := by decide +kernel
theorem dX0_tellBroken_13 : decode cX0_tellBroken 13 = .ok (.iaload, 1) := by decide +kernel
theorem dX0_tellBroken_14 : decode cX0_tellBroken 14 = .ok (.iload_n 2, 1) := by decide +kernel
theorem dX0_tellBroken_15 : decode cX0_tellBroken 15 = .ok (.if_icmp .eq 5, 3) := by decide +kernel
theorem dX0_tellBroken_18 : decode cX0_tellBroken 18 = .ok (.iconst 0, 1) := by decide +kernel
theorem dX0_tellBroken_19 : decode cX0_tellBroken 19 = .ok (.ireturn, 1) := by decide +kernel
theorem dX0_tellBroken_20 : decode cX0_tellBroken 20 = .ok (.aload_n 0, 1) := by decide +kernel
theorem dX0_tellBroken_21 : decode cX0_tellBroken 21 = .ok (.getfield 71, 3) := by decide +kernel
theorem dX0_tellBroken_24 : decode cX0_tellBroken 24 = .ok (.iload_n 1, 1) := by decide +kernel
theorem dX0_tellBroken_25 : decode cX0_tellBroken 25 = .ok (.iload_n 3, 1) := by decide +kernel
theorem dX0_tellBroken_26 : decode cX0_tellBroken 26 = .ok (.iastore, 1) := by decide +kernel
theorem dX0_tellBroken_27 : decode cX0_tellBroken 27 = .ok (.iconst 1, 1) := by decide +kernel
theorem dX0_tellBroken_28 : decode cX0_tellBroken 28 = .ok (.ireturn, 1) := by decide +kernel
set_option maxRecDepth 20000 in
theorem ggX0_tellWear_X2_isThing : GoodIn wsX0_tellWear wsX2_isThing := goodIn_r _ [6, 7, 8, 9, 10, 11, 12, 13, 14, 15, 16, 17] (by decide +kernel) (by decide +kernel)
set_option maxRecDepth 20000 in
theorem gX0_tellWear_X2_isThing : GoodIn wsX0_tellWear (wsV RX0 68 RX2 yX2_isThing wsX2_isThing) := goodIn_app (goodIn_of _ (by decide +kernel)) ggX0_tellWear_X2_isThing
theorem dX0_tellWear_0 : decode cX0_tellWear 0 = .ok (.aload_n 0, 1) := by decide +kernel
theorem dX0_tellWear_1 : decode cX0_tellWear 1 = .ok (.iload_n 1, 1) := by decide +kernel
theorem dX0_tellWear_2 : decode cX0_tellWear 2 = .ok (.invokevirtual 68, 3) := by decide +kernel
theorem dX0_tellWear_5 : decode cX0_tellWear 5 = .ok (.ifCond .ne 5, 3) := by decide +kernel
theorem dX0_tellWear_8 : decode cX0_tellWear 8 = .ok (.iconst 0, 1) := by decide +kernel
theorem dX0_tellWear_9 : decode cX0_tellWear 9 = .ok (.ireturn, 1) := by decide +kernel
theorem dX0_tellWear_10 : decode cX0_tellWear 10 = .ok (.aload_n 0, 1) := by decide +kernel
theorem dX0_tellWear_11 : decode cX0_tellWear 11 = .ok (.getfield 74, 3) := by decide +kernel
theorem dX0_tellWear_14 : decode cX0_tellWear 14 = .ok (.iload_n 1, 1) := by decide +kernel
theorem dX0_tellWear_15 : decode cX0_tellWear 15 = .ok (.iload_n 2, 1) := by decide +kernel
theorem dX0_tellWear_16 : decode cX0_tellWear 16 = .ok (.iastore, 1) := by decide +kernel
theorem dX0_tellWear_17 : decode cX0_tellWear 17 = .ok (.iconst 1, 1) := by decide +kernel
theorem dX0_tellWear_18 : decode cX0_tellWear 18 = .ok (.ireturn, 1) := by decide +kernel
theorem dX1_init_0 : decode cX1_init 0 = .ok (.aload_n 0, 1) := by decide +kernel
theorem dX1_init_1 : decode cX1_init 1 = .ok (.invokespecial 3, 3) := by decide +kernel
theorem dX1_init_4 : decode cX1_init 4 = .ok (.aload_n 0, 1) := by decide +kernel
theorem dX1_init_5 : decode cX1_init 5 = .ok (.sipush 640, 3) := by decide +kernel
theorem dX1_init_8 : decode cX1_init 8 = .ok (.newarray .int, 2) := by decide +kernel
theorem dX1_init_10 : decode cX1_init 10 = .ok (.putfield 11, 3) := by decide +kernel
theorem dX1_init_13 : decode cX1_init 13 = .ok (.return_, 1) := by decide +kernel
set_option maxRecDepth 20000 in
theorem ggX1_fill_X1_mostFrom : GoodIn wsX1_fill wsX1_mostFrom := goodIn_r _ [7, 1, 8, 9, 10, 11, 12, 13, 14, 6, 15, 16, 17, 18, 19, 20, 21, 22, 23, 24, 25, 26, 27, 28, 29, 30, 31, 32, 33, 34, 35, 36, 37, 38, 39, 40, 41, 42, 43, 44, 45, 46, 47, 48] (by decide +kernel) (by decide +kernel)
set_option maxRecDepth 20000 in
theorem gX1_fill_X1_mostFrom : GoodIn wsX1_fill (wsV RX1 21 RX1 yX1_mostFrom wsX1_mostFrom) := goodIn_app (goodIn_of _ (by decide +kernel)) ggX1_fill_X1_mostFrom
theorem dX1_fill_0 : decode cX1_fill 0 = .ok (.iconst 0, 1) := by decide +kernel
theorem dX1_fill_1 : decode cX1_fill 1 = .ok (.istore_n 2, 1) := by decide +kernel
theorem dX1_fill_2 : decode cX1_fill 2 = .ok (.iload_n 2, 1) := by decide +kernel
theorem dX1_fill_3 : decode cX1_fill 3 = .ok (.bipush 64, 2) := by decide +kernel
theorem dX1_fill_5 : decode cX1_fill 5 = .ok (.if_icmp .ge 24, 3) := by decide +kernel
theorem dX1_fill_8 : decode cX1_fill 8 = .ok (.aload_n 0, 1) := by decide +kernel
theorem dX1_fill_9 : decode cX1_fill 9 = .ok (.getfield 11, 3) := by decide +kernel
theorem dX1_fill_12 : decode cX1_fill 12 = .ok (.aload_n 1, 1) := by decide +kernel
theorem dX1_fill_13 : decode cX1_fill 13 = .ok (.getfield 15, 3) := by decide +kernel
theorem dX1_fill_16 : decode cX1_fill 16 = .ok (.bipush 64, 2) := by decide +kernel
theorem dX1_fill_18 : decode cX1_fill 18 = .ok (.imul, 1) := by decide +kernel
theorem dX1_fill_19 : decode cX1_fill 19 = .ok (.iload_n 2, 1) := by decide +kernel
theorem dX1_fill_20 : decode cX1_fill 20 = .ok (.iadd, 1) := by decide +kernel
theorem dX1_fill_21 : decode cX1_fill 21 = .ok (.iconst 0, 1) := by decide +kernel
theorem dX1_fill_22 : decode cX1_fill 22 = .ok (.iastore, 1) := by decide +kernel
theorem dX1_fill_23 : decode cX1_fill 23 = .ok (.iinc 2 1, 3) := by decide +kernel
theorem dX1_fill_26 : decode cX1_fill 26 = .ok (.goto (-24), 3) := by decide +kernel
theorem dX1_fill_29 : decode cX1_fill 29 = .ok (.aload_n 1, 1) := by decide +kernel
theorem dX1_fill_30 : decode cX1_fill 30 = .ok (.getfield 15, 3) := by decide +kernel
theorem dX1_fill_33 : decode cX1_fill 33 = .ok (.iconst 1, 1) := by decide +kernel
theorem dX1_fill_34 : decode cX1_fill 34 = .ok (.isub, 1) := by decide +kernel
theorem dX1_fill_35 : decode cX1_fill 35 = .ok (.istore_n 2, 1) := by decide +kernel
theorem dX1_fill_36 : decode cX1_fill 36 = .ok (.iload_n 2, 1) := by decide +kernel
theorem dX1_fill_37 : decode cX1_fill 37 = .ok (.ifCond .lt 41, 3) := by decide +kernel
theorem dX1_fill_40 : decode cX1_fill 40 = .ok (.iconst 0, 1) := by decide +kernel
theorem dX1_fill_41 : decode cX1_fill 41 = .ok (.istore_n 3, 1) := by decide +kernel
theorem dX1_fill_42 : decode cX1_fill 42 = .ok (.iload_n 3, 1) := by decide +kernel
theorem dX1_fill_43 : decode cX1_fill 43 = .ok (.bipush 64, 2) := by decide +kernel
theorem dX1_fill_45 : decode cX1_fill 45 = .ok (.if_icmp .ge 27, 3) := by decide +kernel
theorem dX1_fill_48 : decode cX1_fill 48 = .ok (.aload_n 0, 1) := by decide +kernel
theorem dX1_fill_49 : decode cX1_fill 49 = .ok (.getfield 11, 3) := by decide +kernel
theorem dX1_fill_52 : decode cX1_fill 52 = .ok (.iload_n 2, 1) := by decide +kernel
theorem dX1_fill_53 : decode cX1_fill 53 = .ok (.bipush 64, 2) := by decide +kernel
theorem dX1_fill_55 : decode cX1_fill 55 = .ok (.imul, 1) := by decide +kernel
theorem dX1_fill_56 : decode cX1_fill 56 = .ok (.iload_n 3, 1) := by decide +kernel
theorem dX1_fill_57 : decode cX1_fill 57 = .ok (.iadd, 1) := by decide +kernel
theorem dX1_fill_58 : decode cX1_fill 58 = .ok (.aload_n 0, 1) := by decide +kernel
theorem dX1_fill_59 : decode cX1_fill 59 = .ok (.aload_n 1, 1) := by decide +kernel
theorem dX1_fill_60 : decode cX1_fill 60 = .ok (.iload_n 2, 1) := by decide +kernel
theorem dX1_fill_61 : decode cX1_fill 61 = .ok (.iload_n 3, 1) := by decide +kernel
theorem dX1_fill_62 : decode cX1_fill 62 = .ok (.invokevirtual 21, 3) := by decide +kernel
theorem dX1_fill_65 : decode cX1_fill 65 = .ok (.iastore, 1) := by decide +kernel
theorem dX1_fill_66 : decode cX1_fill 66 = .ok (.iinc 3 1, 3) := by decide +kernel
theorem dX1_fill_69 : decode cX1_fill 69 = .ok (.goto (-27), 3) := by decide +kernel
theorem dX1_fill_72 : decode cX1_fill 72 = .ok (.iinc 2 (-1), 3) := by decide +kernel
theorem dX1_fill_75 : decode cX1_fill 75 = .ok (.goto (-39), 3) := by decide +kernel
theorem dX1_fill_78 : decode cX1_fill 78 = .ok (.return_, 1) := by decide +kernel
set_option maxRecDepth 20000 in
theorem ggX1_mostFrom_X1_isFree : GoodIn wsX1_mostFrom wsX1_isFree := goodIn_r _ [10, 11, 12, 13, 14, 15, 16, 17, 18, 19, 20, 21, 22, 23, 24, 5, 25, 26, 27, 28, 29, 30, 31, 32, 34, 35, 36, 37, 38, 39, 40, 41, 42, 43] (by decide +kernel) (by decide +kernel)
set_option maxRecDepth 20000 in
theorem gX1_mostFrom_X1_isFree : GoodIn wsX1_mostFrom (va_wsS RX1 28 yX1_isFree wsX1_isFree) := goodIn_app (goodIn_of _ (by decide +kernel)) ggX1_mostFrom_X1_isFree
theorem dX1_mostFrom_0 : decode cX1_mostFrom 0 = .ok (.aload_n 0, 1) := by decide +kernel
theorem dX1_mostFrom_1 : decode cX1_mostFrom 1 = .ok (.getfield 11, 3) := by decide +kernel
theorem dX1_mostFrom_4 : decode cX1_mostFrom 4 = .ok (.iload_n 2, 1) := by decide +kernel
theorem dX1_mostFrom_5 : decode cX1_mostFrom 5 = .ok (.iconst 1, 1) := by decide +kernel
theorem dX1_mostFrom_6 : decode cX1_mostFrom 6 = .ok (.iadd, 1) := by decide +kernel
theorem dX1_mostFrom_7 : decode cX1_mostFrom 7 = .ok (.bipush 64, 2) := by decide +kernel
theorem dX1_mostFrom_9 : decode cX1_mostFrom 9 = .ok (.imul, 1) := by decide +kernel
theorem dX1_mostFrom_10 : decode cX1_mostFrom 10 = .ok (.iload_n 3, 1) := by decide +kernel
theorem dX1_mostFrom_11 : decode cX1_mostFrom 11 = .ok (.iadd, 1) := by decide +kernel
theorem dX1_mostFrom_12 : decode cX1_mostFrom 12 = .ok (.iaload, 1) := by decide +kernel
theorem dX1_mostFrom_13 : decode cX1_mostFrom 13 = .ok (.istore 4, 2) := by decide +kernel
theorem dX1_mostFrom_15 : decode cX1_mostFrom 15 = .ok (.iconst 0, 1) := by decide +kernel
theorem dX1_mostFrom_16 : decode cX1_mostFrom 16 = .ok (.istore 5, 2) := by decide +kernel
theorem dX1_mostFrom_18 : decode cX1_mostFrom 18 = .ok (.iload 5, 2) := by decide +kernel
theorem dX1_mostFrom_20 : decode cX1_mostFrom 20 = .ok (.aload_n 1, 1) := by decide +kernel
theorem dX1_mostFrom_21 : decode cX1_mostFrom 21 = .ok (.getfield 25, 3) := by decide +kernel
theorem dX1_mostFrom_24 : decode cX1_mostFrom 24 = .ok (.if_icmp .ge 47, 3) := by decide +kernel
theorem dX1_mostFrom_27 : decode cX1_mostFrom 27 = .ok (.aload_n 1, 1) := by decide +kernel
theorem dX1_mostFrom_28 : decode cX1_mostFrom 28 = .ok (.iload 5, 2) := by decide +kernel
theorem dX1_mostFrom_30 : decode cX1_mostFrom 30 = .ok (.iload_n 3, 1) := by decide +kernel
theorem dX1_mostFrom_31 : decode cX1_mostFrom 31 = .ok (.iload_n 2, 1) := by decide +kernel
theorem dX1_mostFrom_32 : decode cX1_mostFrom 32 = .ok (.invokestatic 28, 3) := by decide +kernel
theorem dX1_mostFrom_35 : decode cX1_mostFrom 35 = .ok (.ifCond .eq 30, 3) := by decide +kernel
theorem dX1_mostFrom_38 : decode cX1_mostFrom 38 = .ok (.iload 4, 2) := by decide +kernel
theorem dX1_mostFrom_40 : decode cX1_mostFrom 40 = .ok (.iconst 1, 1) := by decide +kernel
theorem dX1_mostFrom_41 : decode cX1_mostFrom 41 = .ok (.aload_n 0, 1) := by decide +kernel
theorem dX1_mostFrom_42 : decode cX1_mostFrom 42 = .ok (.getfield 11, 3) := by decide +kernel
theorem dX1_mostFrom_45 : decode cX1_mostFrom 45 = .ok (.iload_n 2, 1) := by decide +kernel
theorem dX1_mostFrom_46 : decode cX1_mostFrom 46 = .ok (.iconst 1, 1) := by decide +kernel
theorem dX1_mostFrom_47 : decode cX1_mostFrom 47 = .ok (.iadd, 1) := by decide +kernel
theorem dX1_mostFrom_48 : decode cX1_mostFrom 48 = .ok (.bipush 64, 2) := by decide +kernel
theorem dX1_mostFrom_50 : decode cX1_mostFrom 50 = .ok (.imul, 1) := by decide +kernel
theorem dX1_mostFrom_51 : decode cX1_mostFrom 51 = .ok (.iload_n 3, 1) := by decide +kernel
theorem dX1_mostFrom_52 : decode cX1_mostFrom 52 = .ok (.iconst 1, 1) := by decide +kernel
theorem dX1_mostFrom_53 : decode cX1_mostFrom 53 = .ok (.iload 5, 2) := by decide +kernel
theorem dX1_mostFrom_55 : decode cX1_mostFrom 55 = .ok (.ishl, 1) := by decide +kernel
theorem dX1_mostFrom_56 : decode cX1_mostFrom 56 = .ok (.ior, 1) := by decide +kernel
theorem dX1_mostFrom_57 : decode cX1_mostFrom 57 = .ok (.iadd, 1) := by decide +kernel
theorem dX1_mostFrom_58 : decode cX1_mostFrom 58 = .ok (.iaload, 1) := by decide +kernel
theorem dX1_mostFrom_59 : decode cX1_mostFrom 59 = .ok (.iadd, 1) := by decide +kernel
theorem dX1_mostFrom_60 : decode cX1_mostFrom 60 = .ok (.invokestatic 32, 3) := by decide +kernel
theorem dX1_mostFrom_63 : decode cX1_mostFrom 63 = .ok (.istore 4, 2) := by decide +kernel
theorem dX1_mostFrom_65 : decode cX1_mostFrom 65 = .ok (.iinc 5 1, 3) := by decide +kernel
theorem dX1_mostFrom_68 : decode cX1_mostFrom 68 = .ok (.goto (-50), 3) := by decide +kernel
theorem dX1_mostFrom_71 : decode cX1_mostFrom 71 = .ok (.iload 4, 2) := by decide +kernel
theorem dX1_mostFrom_73 : decode cX1_mostFrom 73 = .ok (.ireturn, 1) := by decide +kernel
set_option maxRecDepth 20000 in
theorem ggX1_isFree_X2_mayMend : GoodIn wsX1_isFree wsX2_mayMend := goodIn_r _ [5, 6, 7, 8, 9, 10, 4, 11, 12, 13, 14, 15, 16, 17, 18, 19, 20, 21, 22, 23, 24, 25, 26, 27, 28, 29, 30, 31, 32, 33] (by decide +kernel) (by decide +kernel)
set_option maxRecDepth 20000 in
theorem gX1_isFree_X2_mayMend : GoodIn wsX1_isFree (wsV RX1 38 RX2 yX2_mayMend wsX2_mayMend) := goodIn_app (goodIn_of _ (by decide +kernel)) ggX1_isFree_X2_mayMend
theorem dX1_isFree_0 : decode cX1_isFree 0 = .ok (.iload_n 2, 1) := by decide +kernel
theorem dX1_isFree_1 : decode cX1_isFree 1 = .ok (.iconst 1, 1) := by decide +kernel
theorem dX1_isFree_2 : decode cX1_isFree 2 = .ok (.iload_n 1, 1) := by decide +kernel
theorem dX1_isFree_3 : decode cX1_isFree 3 = .ok (.ishl, 1) := by decide +kernel
theorem dX1_isFree_4 : decode cX1_isFree 4 = .ok (.iand, 1) := by decide +kernel
theorem dX1_isFree_5 : decode cX1_isFree 5 = .ok (.ifCond .ne 16, 3) := by decide +kernel
theorem dX1_isFree_8 : decode cX1_isFree 8 = .ok (.aload_n 0, 1) := by decide +kernel
theorem dX1_isFree_9 : decode cX1_isFree 9 = .ok (.iload_n 1, 1) := by decide +kernel
theorem dX1_isFree_10 : decode cX1_isFree 10 = .ok (.iload_n 3, 1) := by decide +kernel
theorem dX1_isFree_11 : decode cX1_isFree 11 = .ok (.invokevirtual 38, 3) := by decide +kernel
theorem dX1_isFree_14 : decode cX1_isFree 14 = .ok (.ifCond .eq 7, 3) := by decide +kernel
theorem dX1_isFree_17 : decode cX1_isFree 17 = .ok (.iconst 1, 1) := by decide +kernel
theorem dX1_isFree_18 : decode cX1_isFree 18 = .ok (.goto 4, 3) := by decide +kernel
theorem dX1_isFree_21 : decode cX1_isFree 21 = .ok (.iconst 0, 1) := by decide +kernel
theorem dX1_isFree_22 : decode cX1_isFree 22 = .ok (.ireturn, 1) := by decide +kernel
theorem dX1_most_0 : decode cX1_most 0 = .ok (.aload_n 0, 1) := by decide +kernel
theorem dX1_most_1 : decode cX1_most 1 = .ok (.getfield 11, 3) := by decide +kernel
theorem dX1_most_4 : decode cX1_most 4 = .ok (.iconst 0, 1) := by decide +kernel
theorem dX1_most_5 : decode cX1_most 5 = .ok (.iaload, 1) := by decide +kernel
theorem dX1_most_6 : decode cX1_most 6 = .ok (.ireturn, 1) := by decide +kernel
set_option maxRecDepth 20000 in
theorem ggX1_menderOf_X1_leastMender : GoodIn wsX1_menderOf wsX1_leastMender := goodIn_r _ [5, 6, 7, 8, 9, 4, 10, 11, 12, 13, 14, 15, 16, 17, 18, 19, 20, 21, 22, 23, 24, 25, 26, 27, 28, 29, 30, 31, 32, 33, 34, 35, 36, 37, 38, 39, 40, 41, 42, 43, 44] (by decide +kernel) (by decide +kernel)
set_option maxRecDepth 20000 in
theorem gX1_menderOf_X1_leastMender : GoodIn wsX1_menderOf (wsV RX1 42 RX1 yX1_leastMender wsX1_leastMender) := goodIn_app (goodIn_of _ (by decide +kernel)) ggX1_menderOf_X1_leastMender
theorem dX1_menderOf_0 : decode cX1_menderOf 0 = .ok (.iconst 0, 1) := by decide +kernel
theorem dX1_menderOf_1 : decode cX1_menderOf 1 = .ok (.istore_n 3, 1) := by decide +kernel
theorem dX1_menderOf_2 : decode cX1_menderOf 2 = .ok (.bipush (-9), 2) := by decide +kernel
theorem dX1_menderOf_4 : decode cX1_menderOf 4 = .ok (.istore 4, 2) := by decide +kernel
theorem dX1_menderOf_6 : decode cX1_menderOf 6 = .ok (.iconst 0, 1) := by decide +kernel
theorem dX1_menderOf_7 : decode cX1_menderOf 7 = .ok (.istore 5, 2) := by decide +kernel
theorem dX1_menderOf_9 : decode cX1_menderOf 9 = .ok (.iload 5, 2) := by decide +kernel
theorem dX1_menderOf_11 : decode cX1_menderOf 11 = .ok (.iload_n 2, 1) := by decide +kernel
theorem dX1_menderOf_12 : decode cX1_menderOf 12 = .ok (.if_icmp .gt 37, 3) := by decide +kernel
theorem dX1_menderOf_15 : decode cX1_menderOf 15 = .ok (.aload_n 0, 1) := by decide +kernel
theorem dX1_menderOf_16 : decode cX1_menderOf 16 = .ok (.aload_n 1, 1) := by decide +kernel
theorem dX1_menderOf_17 : decode cX1_menderOf 17 = .ok (.iload 5, 2) := by decide +kernel
theorem dX1_menderOf_19 : decode cX1_menderOf 19 = .ok (.iload_n 3, 1) := by decide +kernel
theorem dX1_menderOf_20 : decode cX1_menderOf 20 = .ok (.invokevirtual 42, 3) := by decide +kernel
theorem dX1_menderOf_23 : decode cX1_menderOf 23 = .ok (.istore 4, 2) := by decide +kernel
theorem dX1_menderOf_25 : decode cX1_menderOf 25 = .ok (.iload_n 3, 1) := by decide +kernel
theorem dX1_menderOf_26 : decode cX1_menderOf 26 = .ok (.iload 4, 2) := by decide +kernel
theorem dX1_menderOf_28 : decode cX1_menderOf 28 = .ok (.bipush (-9), 2) := by decide +kernel
theorem dX1_menderOf_30 : decode cX1_menderOf 30 = .ok (.if_icmp .ne 7, 3) := by decide +kernel
theorem dX1_menderOf_33 : decode cX1_menderOf 33 = .ok (.iconst 0, 1) := by decide +kernel
theorem dX1_menderOf_34 : decode cX1_menderOf 34 = .ok (.goto 7, 3) := by decide +kernel
theorem dX1_menderOf_37 : decode cX1_menderOf 37 = .ok (.iconst 1, 1) := by decide +kernel
theorem dX1_menderOf_38 : decode cX1_menderOf 38 = .ok (.iload 4, 2) := by decide +kernel
theorem dX1_menderOf_40 : decode cX1_menderOf 40 = .ok (.ishl, 1) := by decide +kernel
theorem dX1_menderOf_41 : decode cX1_menderOf 41 = .ok (.ior, 1) := by decide +kernel
theorem dX1_menderOf_42 : decode cX1_menderOf 42 = .ok (.istore_n 3, 1) := by decide +kernel
theorem dX1_menderOf_43 : decode cX1_menderOf 43 = .ok (.iinc 5 1, 3) := by decide +kernel
theorem dX1_menderOf_46 : decode cX1_menderOf 46 = .ok (.goto (-37), 3) := by decide +kernel
theorem dX1_menderOf_49 : decode cX1_menderOf 49 = .ok (.iload 4, 2) := by decide +kernel
theorem dX1_menderOf_51 : decode cX1_menderOf 51 = .ok (.ireturn, 1) := by decide +kernel
set_option maxRecDepth 20000 in
theorem ggX1_leastMender_X1_isFree : GoodIn wsX1_leastMender wsX1_isFree := goodIn_r _ [6, 7, 8, 9, 10, 11, 12, 13, 14, 15, 16, 17, 18, 19, 20, 21, 22, 23, 24, 25, 26, 27, 28, 29, 31, 32, 33, 34, 35, 36, 37, 38, 39, 40] (by decide +kernel) (by decide +kernel)
set_option maxRecDepth 20000 in
theorem gX1_leastMender_X1_isFree : GoodIn wsX1_leastMender (va_wsS RX1 28 yX1_isFree wsX1_isFree) := goodIn_app (goodIn_of _ (by decide +kernel)) ggX1_leastMender_X1_isFree
theorem dX1_leastMender_0 : decode cX1_leastMender 0 = .ok (.aload_n 0, 1) := by decide +kernel
theorem dX1_leastMender_1 : decode cX1_leastMender 1 = .ok (.getfield 11, 3) := by decide +kernel
theorem dX1_leastMender_4 : decode cX1_leastMender 4 = .ok (.iload_n 2, 1) := by decide +kernel
theorem dX1_leastMender_5 : decode cX1_leastMender 5 = .ok (.bipush 64, 2) := by decide +kernel
theorem dX1_leastMender_7 : decode cX1_leastMender 7 = .ok (.imul, 1) := by decide +kernel
theorem dX1_leastMender_8 : decode cX1_leastMender 8 = .ok (.iload_n 3, 1) := by decide +kernel
theorem dX1_leastMender_9 : decode cX1_leastMender 9 = .ok (.iadd, 1) := by decide +kernel
theorem dX1_leastMender_10 : decode cX1_leastMender 10 = .ok (.iaload, 1) := by decide +kernel
theorem dX1_leastMender_11 : decode cX1_leastMender 11 = .ok (.istore 4, 2) := by decide +kernel
theorem dX1_leastMender_13 : decode cX1_leastMender 13 = .ok (.iconst 0, 1) := by decide +kernel
theorem dX1_leastMender_14 : decode cX1_leastMender 14 = .ok (.istore 5, 2) := by decide +kernel
theorem dX1_leastMender_16 : decode cX1_leastMender 16 = .ok (.iload 5, 2) := by decide +kernel
theorem dX1_leastMender_18 : decode cX1_leastMender 18 = .ok (.aload_n 1, 1) := by decide +kernel
theorem dX1_leastMender_19 : decode cX1_leastMender 19 = .ok (.getfield 25, 3) := by decide +kernel
theorem dX1_leastMender_22 : decode cX1_leastMender 22 = .ok (.if_icmp .ge 48, 3) := by decide +kernel
theorem dX1_leastMender_25 : decode cX1_leastMender 25 = .ok (.aload_n 1, 1) := by decide +kernel
theorem dX1_leastMender_26 : decode cX1_leastMender 26 = .ok (.iload 5, 2) := by decide +kernel
theorem dX1_leastMender_28 : decode cX1_leastMender 28 = .ok (.iload_n 3, 1) := by decide +kernel
theorem dX1_leastMender_29 : decode cX1_leastMender 29 = .ok (.iload_n 2, 1) := by decide +kernel
theorem dX1_leastMender_30 : decode cX1_leastMender 30 = .ok (.invokestatic 28, 3) := by decide +kernel
theorem dX1_leastMender_33 : decode cX1_leastMender 33 = .ok (.ifCond .eq 31, 3) := by decide +kernel
theorem dX1_leastMender_36 : decode cX1_leastMender 36 = .ok (.iconst 1, 1) := by decide +kernel
theorem dX1_leastMender_37 : decode cX1_leastMender 37 = .ok (.aload_n 0, 1) := by decide +kernel
theorem dX1_leastMender_38 : decode cX1_leastMender 38 = .ok (.getfield 11, 3) := by decide +kernel
theorem dX1_leastMender_41 : decode cX1_leastMender 41 = .ok (.iload_n 2, 1) := by decide +kernel
theorem dX1_leastMender_42 : decode cX1_leastMender 42 = .ok (.iconst 1, 1) := by decide +kernel
theorem dX1_leastMender_43 : decode cX1_leastMender 43 = .ok (.iadd, 1) := by decide +kernel
theorem dX1_leastMender_44 : decode cX1_leastMender 44 = .ok (.bipush 64, 2) := by decide +kernel
theorem dX1_leastMender_46 : decode cX1_leastMender 46 = .ok (.imul, 1) := by decide +kernel
theorem dX1_leastMender_47 : decode cX1_leastMender 47 = .ok (.iload_n 3, 1) := by decide +kernel
theorem dX1_leastMender_48 : decode cX1_leastMender 48 = .ok (.iconst 1, 1) := by decide +kernel
theorem dX1_leastMender_49 : decode cX1_leastMender 49 = .ok (.iload 5, 2) := by decide +kernel
theorem dX1_leastMender_51 : decode cX1_leastMender 51 = .ok (.ishl, 1) := by decide +kernel
theorem dX1_leastMender_52 : decode cX1_leastMender 52 = .ok (.ior, 1) := by decide +kernel
theorem dX1_leastMender_53 : decode cX1_leastMender 53 = .ok (.iadd, 1) := by decide +kernel
theorem dX1_leastMender_54 : decode cX1_leastMender 54 = .ok (.iaload, 1) := by decide +kernel
theorem dX1_leastMender_55 : decode cX1_leastMender 55 = .ok (.iadd, 1) := by decide +kernel
theorem dX1_leastMender_56 : decode cX1_leastMender 56 = .ok (.iload 4, 2) := by decide +kernel
theorem dX1_leastMender_58 : decode cX1_leastMender 58 = .ok (.if_icmp .ne 6, 3) := by decide +kernel
theorem dX1_leastMender_61 : decode cX1_leastMender 61 = .ok (.iload 5, 2) := by decide +kernel
theorem dX1_leastMender_63 : decode cX1_leastMender 63 = .ok (.ireturn, 1) := by decide +kernel
theorem dX1_leastMender_64 : decode cX1_leastMender 64 = .ok (.iinc 5 1, 3) := by decide +kernel
theorem dX1_leastMender_67 : decode cX1_leastMender 67 = .ok (.goto (-51), 3) := by decide +kernel
theorem dX1_leastMender_70 : decode cX1_leastMender 70 = .ok (.bipush (-9), 2) := by decide +kernel
theorem dX1_leastMender_72 : decode cX1_leastMender 72 = .ok (.ireturn, 1) := by decide +kernel
theorem dX2_init_0 : decode cX2_init 0 = .ok (.aload_n 0, 1) := by decide +kernel
theorem dX2_init_1 : decode cX2_init 1 = .ok (.invokespecial 3, 3) := by decide +kernel
theorem dX2_init_4 : decode cX2_init 4 = .ok (.aload_n 0, 1) := by decide +kernel
theorem dX2_init_5 : decode cX2_init 5 = .ok (.bipush 6, 2) := by decide +kernel
theorem dX2_init_7 : decode cX2_init 7 = .ok (.newarray .int, 2) := by decide +kernel
theorem dX2_init_9 : decode cX2_init 9 = .ok (.putfield 9, 3) := by decide +kernel
theorem dX2_init_12 : decode cX2_init 12 = .ok (.aload_n 0, 1) := by decide +kernel
theorem dX2_init_13 : decode cX2_init 13 = .ok (.bipush 6, 2) := by decide +kernel
theorem dX2_init_15 : decode cX2_init 15 = .ok (.newarray .int, 2) := by decide +kernel
theorem dX2_init_17 : decode cX2_init 17 = .ok (.putfield 15, 3) := by decide +kernel
theorem dX2_init_20 : decode cX2_init 20 = .ok (.aload_n 0, 1) := by decide +kernel
theorem dX2_init_21 : decode cX2_init 21 = .ok (.bipush 9, 2) := by decide +kernel
theorem dX2_init_23 : decode cX2_init 23 = .ok (.newarray .int, 2) := by decide +kernel
theorem dX2_init_25 : decode cX2_init 25 = .ok (.putfield 18, 3) := by decide +kernel
theorem dX2_init_28 : decode cX2_init 28 = .ok (.aload_n 0, 1) := by decide +kernel
theorem dX2_init_29 : decode cX2_init 29 = .ok (.bipush 9, 2) := by decide +kernel
theorem dX2_init_31 : decode cX2_init 31 = .ok (.newarray .int, 2) := by decide +kernel
theorem dX2_init_33 : decode cX2_init 33 = .ok (.putfield 21, 3) := by decide +kernel
theorem dX2_init_36 : decode cX2_init 36 = .ok (.aload_n 0, 1) := by decide +kernel
theorem dX2_init_37 : decode cX2_init 37 = .ok (.bipush 9, 2) := by decide +kernel
theorem dX2_init_39 : decode cX2_init 39 = .ok (.newarray .int, 2) := by decide +kernel
theorem dX2_init_41 : decode cX2_init 41 = .ok (.putfield 24, 3) := by decide +kernel
theorem dX2_init_44 : decode cX2_init 44 = .ok (.aload_n 0, 1) := by decide +kernel
theorem dX2_init_45 : decode cX2_init 45 = .ok (.bipush 9, 2) := by decide +kernel
theorem dX2_init_47 : decode cX2_init 47 = .ok (.newarray .int, 2) := by decide +kernel
theorem dX2_init_49 : decode cX2_init 49 = .ok (.putfield 27, 3) := by decide +kernel
theorem dX2_init_52 : decode cX2_init 52 = .ok (.aload_n 0, 1) := by decide +kernel
theorem dX2_init_53 : decode cX2_init 53 = .ok (.bipush 9, 2) := by decide +kernel
theorem dX2_init_55 : decode cX2_init 55 = .ok (.newarray .int, 2) := by decide +kernel
theorem dX2_init_57 : decode cX2_init 57 = .ok (.putfield 30, 3) := by decide +kernel
theorem dX2_init_60 : decode cX2_init 60 = .ok (.aload_n 0, 1) := by decide +kernel
theorem dX2_init_61 : decode cX2_init 61 = .ok (.iconst 0, 1) := by decide +kernel
theorem dX2_init_62 : decode cX2_init 62 = .ok (.putfield 33, 3) := by decide +kernel
theorem dX2_init_65 : decode cX2_init 65 = .ok (.aload_n 0, 1) := by decide +kernel
theorem dX2_init_66 : decode cX2_init 66 = .ok (.iconst 0, 1) := by decide +kernel
theorem dX2_init_67 : decode cX2_init 67 = .ok (.putfield 37, 3) := by decide +kernel
theorem dX2_init_70 : decode cX2_init 70 = .ok (.aload_n 0, 1) := by decide +kernel
theorem dX2_init_71 : decode cX2_init 71 = .ok (.iconst 0, 1) := by decide +kernel
theorem dX2_init_72 : decode cX2_init 72 = .ok (.putfield 40, 3) := by decide +kernel
theorem dX2_init_75 : decode cX2_init 75 = .ok (.return_, 1) := by decide +kernel
theorem dX2_become_0 : decode cX2_become 0 = .ok (.aload_n 1, 1) := by decide +kernel
theorem dX2_become_1 : decode cX2_become 1 = .ok (.getfield 9, 3) := by decide +kernel
theorem dX2_become_4 : decode cX2_become 4 = .ok (.iconst 0, 1) := by decide +kernel
theorem dX2_become_5 : decode cX2_become 5 = .ok (.aload_n 0, 1) := by decide +kernel
theorem dX2_become_6 : decode cX2_become 6 = .ok (.getfield 9, 3) := by decide +kernel
theorem dX2_become_9 : decode cX2_become 9 = .ok (.iconst 0, 1) := by decide +kernel
theorem dX2_become_10 : decode cX2_become 10 = .ok (.bipush 6, 2) := by decide +kernel
theorem dX2_become_12 : decode cX2_become 12 = .ok (.invokestatic 43, 3) := by decide +kernel
theorem dX2_become_15 : decode cX2_become 15 = .ok (.aload_n 1, 1) := by decide +kernel
theorem dX2_become_16 : decode cX2_become 16 = .ok (.getfield 15, 3) := by decide +kernel
theorem dX2_become_19 : decode cX2_become 19 = .ok (.iconst 0, 1) := by decide +kernel
theorem dX2_become_20 : decode cX2_become 20 = .ok (.aload_n 0, 1) := by decide +kernel
theorem dX2_become_21 : decode cX2_become 21 = .ok (.getfield 15, 3) := by decide +kernel
theorem dX2_become_24 : decode cX2_become 24 = .ok (.iconst 0, 1) := by decide +kernel
theorem dX2_become_25 : decode cX2_become 25 = .ok (.bipush 6, 2) := by decide +kernel
theorem dX2_become_27 : decode cX2_become 27 = .ok (.invokestatic 43, 3) := by decide +kernel
theorem dX2_become_30 : decode cX2_become 30 = .ok (.aload_n 1, 1) := by decide +kernel
theorem dX2_become_31 : decode cX2_become 31 = .ok (.getfield 18, 3) := by decide +kernel
theorem dX2_become_34 : decode cX2_become 34 = .ok (.iconst 0, 1) := by decide +kernel
theorem dX2_become_35 : decode cX2_become 35 = .ok (.aload_n 0, 1) := by decide +kernel
theorem dX2_become_36 : decode cX2_become 36 = .ok (.getfield 18, 3) := by decide +kernel
theorem dX2_become_39 : decode cX2_become 39 = .ok (.iconst 0, 1) := by decide +kernel
theorem dX2_become_40 : decode cX2_become 40 = .ok (.bipush 9, 2) := by decide +kernel
theorem dX2_become_42 : decode cX2_become 42 = .ok (.invokestatic 43, 3) := by decide +kernel
theorem dX2_become_45 : decode cX2_become 45 = .ok (.aload_n 1, 1) := by decide +kernel
theorem dX2_become_46 : decode cX2_become 46 = .ok (.getfield 21, 3) := by decide +kernel
theorem dX2_become_49 : decode cX2_become 49 = .ok (.iconst 0, 1) := by decide +kernel
theorem dX2_become_50 : decode cX2_become 50 = .ok (.aload_n 0, 1) := by decide +kernel
theorem dX2_become_51 : decode cX2_become 51 = .ok (.getfield 21, 3) := by decide +kernel
theorem dX2_become_54 : decode cX2_become 54 = .ok (.iconst 0, 1) := by decide +kernel
theorem dX2_become_55 : decode cX2_become 55 = .ok (.bipush 9, 2) := by decide +kernel
theorem dX2_become_57 : decode cX2_become 57 = .ok (.invokestatic 43, 3) := by decide +kernel
theorem dX2_become_60 : decode cX2_become 60 = .ok (.aload_n 1, 1) := by decide +kernel
theorem dX2_become_61 : decode cX2_become 61 = .ok (.getfield 24, 3) := by decide +kernel
theorem dX2_become_64 : decode cX2_become 64 = .ok (.iconst 0, 1) := by decide +kernel
theorem dX2_become_65 : decode cX2_become 65 = .ok (.aload_n 0, 1) := by decide +kernel
theorem dX2_become_66 : decode cX2_become 66 = .ok (.getfield 24, 3) := by decide +kernel
theorem dX2_become_69 : decode cX2_become 69 = .ok (.iconst 0, 1) := by decide +kernel
theorem dX2_become_70 : decode cX2_become 70 = .ok (.bipush 9, 2) := by decide +kernel
theorem dX2_become_72 : decode cX2_become 72 = .ok (.invokestatic 43, 3) := by decide +kernel
theorem dX2_become_75 : decode cX2_become 75 = .ok (.aload_n 1, 1) := by decide +kernel
theorem dX2_become_76 : decode cX2_become 76 = .ok (.getfield 27, 3) := by decide +kernel
theorem dX2_become_79 : decode cX2_become 79 = .ok (.iconst 0, 1) := by decide +kernel
theorem dX2_become_80 : decode cX2_become 80 = .ok (.aload_n 0, 1) := by decide +kernel
theorem dX2_become_81 : decode cX2_become 81 = .ok (.getfield 27, 3) := by decide +kernel
theorem dX2_become_84 : decode cX2_become 84 = .ok (.iconst 0, 1) := by decide +kernel
theorem dX2_become_85 : decode cX2_become 85 = .ok (.bipush 9, 2) := by decide +kernel
theorem dX2_become_87 : decode cX2_become 87 = .ok (.invokestatic 43, 3) := by decide +kernel
theorem dX2_become_90 : decode cX2_become 90 = .ok (.aload_n 1, 1) := by decide +kernel
theorem dX2_become_91 : decode cX2_become 91 = .ok (.getfield 30, 3) := by decide +kernel
theorem dX2_become_94 : decode cX2_become 94 = .ok (.iconst 0, 1) := by decide +kernel
theorem dX2_become_95 : decode cX2_become 95 = .ok (.aload_n 0, 1) := by decide +kernel
theorem dX2_become_96 : decode cX2_become 96 = .ok (.getfield 30, 3) := by decide +kernel
theorem dX2_become_99 : decode cX2_become 99 = .ok (.iconst 0, 1) := by decide +kernel
theorem dX2_become_100 : decode cX2_become 100 = .ok (.bipush 9, 2) := by decide +kernel
theorem dX2_become_102 : decode cX2_become 102 = .ok (.invokestatic 43, 3) := by decide +kernel
theorem dX2_become_105 : decode cX2_become 105 = .ok (.aload_n 0, 1) := by decide +kernel
theorem dX2_become_106 : decode cX2_become 106 = .ok (.aload_n 1, 1) := by decide +kernel
theorem dX2_become_107 : decode cX2_become 107 = .ok (.getfield 33, 3) := by decide +kernel
theorem dX2_become_110 : decode cX2_become 110 = .ok (.putfield 33, 3) := by decide +kernel
theorem dX2_become_113 : decode cX2_become 113 = .ok (.aload_n 0, 1) := by decide +kernel
theorem dX2_become_114 : decode cX2_become 114 = .ok (.aload_n 1, 1) := by decide +kernel
theorem dX2_become_115 : decode cX2_become 115 = .ok (.getfield 37, 3) := by decide +kernel
theorem dX2_become_118 : decode cX2_become 118 = .ok (.putfield 37, 3) := by decide +kernel
theorem dX2_become_121 : decode cX2_become 121 = .ok (.aload_n 0, 1) := by decide +kernel
theorem dX2_become_122 : decode cX2_become 122 = .ok (.aload_n 1, 1) := by decide +kernel
theorem dX2_become_123 : decode cX2_become 123 = .ok (.getfield 40, 3) := by decide +kernel
theorem dX2_become_126 : decode cX2_become 126 = .ok (.putfield 40, 3) := by decide +kernel
theorem dX2_become_129 : decode cX2_become 129 = .ok (.return_, 1) := by decide +kernel
theorem dX2_isPerson_0 : decode cX2_isPerson 0 = .ok (.iload_n 1, 1) := by decide +kernel
theorem dX2_isPerson_1 : decode cX2_isPerson 1 = .ok (.ifCond .lt 15, 3) := by decide +kernel
theorem dX2_isPerson_4 : decode cX2_isPerson 4 = .ok (.iload_n 1, 1) := by decide +kernel
theorem dX2_isPerson_5 : decode cX2_isPerson 5 = .ok (.aload_n 0, 1) := by decide +kernel
theorem dX2_isPerson_6 : decode cX2_isPerson 6 = .ok (.getfield 33, 3) := by decide +kernel
theorem dX2_isPerson_9 : decode cX2_isPerson 9 = .ok (.if_icmp .ge 7, 3) := by decide +kernel
theorem dX2_isPerson_12 : decode cX2_isPerson 12 = .ok (.iconst 1, 1) := by decide +kernel
theorem dX2_isPerson_13 : decode cX2_isPerson 13 = .ok (.goto 4, 3) := by decide +kernel
theorem dX2_isPerson_16 : decode cX2_isPerson 16 = .ok (.iconst 0, 1) := by decide +kernel
theorem dX2_isPerson_17 : decode cX2_isPerson 17 = .ok (.ireturn, 1) := by decide +kernel
theorem dX2_isThing_0 : decode cX2_isThing 0 = .ok (.iload_n 1, 1) := by decide +kernel
theorem dX2_isThing_1 : decode cX2_isThing 1 = .ok (.ifCond .lt 15, 3) := by decide +kernel
theorem dX2_isThing_4 : decode cX2_isThing 4 = .ok (.iload_n 1, 1) := by decide +kernel
theorem dX2_isThing_5 : decode cX2_isThing 5 = .ok (.aload_n 0, 1) := by decide +kernel
theorem dX2_isThing_6 : decode cX2_isThing 6 = .ok (.getfield 37, 3) := by decide +kernel
theorem dX2_isThing_9 : decode cX2_isThing 9 = .ok (.if_icmp .ge 7, 3) := by decide +kernel
theorem dX2_isThing_12 : decode cX2_isThing 12 = .ok (.iconst 1, 1) := by decide +kernel
theorem dX2_isThing_13 : decode cX2_isThing 13 = .ok (.goto 4, 3) := by decide +kernel
theorem dX2_isThing_16 : decode cX2_isThing 16 = .ok (.iconst 0, 1) := by decide +kernel
theorem dX2_isThing_17 : decode cX2_isThing 17 = .ok (.ireturn, 1) := by decide +kernel
theorem dX2_isWhole_0 : decode cX2_isWhole 0 = .ok (.aload_n 0, 1) := by decide +kernel
theorem dX2_isWhole_1 : decode cX2_isWhole 1 = .ok (.getfield 30, 3) := by decide +kernel
theorem dX2_isWhole_4 : decode cX2_isWhole 4 = .ok (.iload_n 1, 1) := by decide +kernel
theorem dX2_isWhole_5 : decode cX2_isWhole 5 = .ok (.iaload, 1) := by decide +kernel
theorem dX2_isWhole_6 : decode cX2_isWhole 6 = .ok (.bipush (-9), 2) := by decide +kernel
theorem dX2_isWhole_8 : decode cX2_isWhole 8 = .ok (.if_icmp .ne 7, 3) := by decide +kernel
theorem dX2_isWhole_11 : decode cX2_isWhole 11 = .ok (.iconst 1, 1) := by decide +kernel
theorem dX2_isWhole_12 : decode cX2_isWhole 12 = .ok (.goto 4, 3) := by decide +kernel
theorem dX2_isWhole_15 : decode cX2_isWhole 15 = .ok (.iconst 0, 1) := by decide +kernel
theorem dX2_isWhole_16 : decode cX2_isWhole 16 = .ok (.ireturn, 1) := by decide +kernel
theorem dX2_isMourned_0 : decode cX2_isMourned 0 = .ok (.aload_n 0, 1) := by decide +kernel
theorem dX2_isMourned_1 : decode cX2_isMourned 1 = .ok (.getfield 30, 3) := by decide +kernel
theorem dX2_isMourned_4 : decode cX2_isMourned 4 = .ok (.iload_n 1, 1) := by decide +kernel
theorem dX2_isMourned_5 : decode cX2_isMourned 5 = .ok (.iaload, 1) := by decide +kernel
theorem dX2_isMourned_6 : decode cX2_isMourned 6 = .ok (.bipush (-8), 2) := by decide +kernel
theorem dX2_isMourned_8 : decode cX2_isMourned 8 = .ok (.if_icmp .ne 7, 3) := by decide +kernel
theorem dX2_isMourned_11 : decode cX2_isMourned 11 = .ok (.iconst 1, 1) := by decide +kernel
theorem dX2_isMourned_12 : decode cX2_isMourned 12 = .ok (.goto 4, 3) := by decide +kernel
theorem dX2_isMourned_15 : decode cX2_isMourned 15 = .ok (.iconst 0, 1) := by decide +kernel
theorem dX2_isMourned_16 : decode cX2_isMourned 16 = .ok (.ireturn, 1) := by decide +kernel
theorem dX2_isByAnother_0 : decode cX2_isByAnother 0 = .ok (.aload_n 0, 1) := by decide +kernel
theorem dX2_isByAnother_1 : decode cX2_isByAnother 1 = .ok (.getfield 30, 3) := by decide +kernel
theorem dX2_isByAnother_4 : decode cX2_isByAnother 4 = .ok (.iload_n 1, 1) := by decide +kernel
theorem dX2_isByAnother_5 : decode cX2_isByAnother 5 = .ok (.iaload, 1) := by decide +kernel
theorem dX2_isByAnother_6 : decode cX2_isByAnother 6 = .ok (.ifCond .lt 22, 3) := by decide +kernel
theorem dX2_isByAnother_9 : decode cX2_isByAnother 9 = .ok (.aload_n 0, 1) := by decide +kernel
theorem dX2_isByAnother_10 : decode cX2_isByAnother 10 = .ok (.getfield 30, 3) := by decide +kernel
theorem dX2_isByAnother_13 : decode cX2_isByAnother 13 = .ok (.iload_n 1, 1) := by decide +kernel
theorem dX2_isByAnother_14 : decode cX2_isByAnother 14 = .ok (.iaload, 1) := by decide +kernel
theorem dX2_isByAnother_15 : decode cX2_isByAnother 15 = .ok (.aload_n 0, 1) := by decide +kernel
theorem dX2_isByAnother_16 : decode cX2_isByAnother 16 = .ok (.getfield 24, 3) := by decide +kernel
theorem dX2_isByAnother_19 : decode cX2_isByAnother 19 = .ok (.iload_n 1, 1) := by decide +kernel
theorem dX2_isByAnother_20 : decode cX2_isByAnother 20 = .ok (.iaload, 1) := by decide +kernel
theorem dX2_isByAnother_21 : decode cX2_isByAnother 21 = .ok (.if_icmp .eq 7, 3) := by decide +kernel
theorem dX2_isByAnother_24 : decode cX2_isByAnother 24 = .ok (.iconst 1, 1) := by decide +kernel
theorem dX2_isByAnother_25 : decode cX2_isByAnother 25 = .ok (.goto 4, 3) := by decide +kernel
theorem dX2_isByAnother_28 : decode cX2_isByAnother 28 = .ok (.iconst 0, 1) := by decide +kernel
theorem dX2_isByAnother_29 : decode cX2_isByAnother 29 = .ok (.ireturn, 1) := by decide +kernel
theorem dX2_addPerson_0 : decode cX2_addPerson 0 = .ok (.aload_n 0, 1) := by decide +kernel
theorem dX2_addPerson_1 : decode cX2_addPerson 1 = .ok (.getfield 33, 3) := by decide +kernel
theorem dX2_addPerson_4 : decode cX2_addPerson 4 = .ok (.bipush 6, 2) := by decide +kernel
theorem dX2_addPerson_6 : decode cX2_addPerson 6 = .ok (.if_icmp .lt 5, 3) := by decide +kernel
theorem dX2_addPerson_9 : decode cX2_addPerson 9 = .ok (.iconst 0, 1) := by decide +kernel
theorem dX2_addPerson_10 : decode cX2_addPerson 10 = .ok (.ireturn, 1) := by decide +kernel
theorem dX2_addPerson_11 : decode cX2_addPerson 11 = .ok (.aload_n 0, 1) := by decide +kernel
theorem dX2_addPerson_12 : decode cX2_addPerson 12 = .ok (.getfield 9, 3) := by decide +kernel
theorem dX2_addPerson_15 : decode cX2_addPerson 15 = .ok (.aload_n 0, 1) := by decide +kernel
theorem dX2_addPerson_16 : decode cX2_addPerson 16 = .ok (.getfield 33, 3) := by decide +kernel
theorem dX2_addPerson_19 : decode cX2_addPerson 19 = .ok (.iload_n 1, 1) := by decide +kernel
theorem dX2_addPerson_20 : decode cX2_addPerson 20 = .ok (.iastore, 1) := by decide +kernel
theorem dX2_addPerson_21 : decode cX2_addPerson 21 = .ok (.aload_n 0, 1) := by decide +kernel
theorem dX2_addPerson_22 : decode cX2_addPerson 22 = .ok (.getfield 15, 3) := by decide +kernel
theorem dX2_addPerson_25 : decode cX2_addPerson 25 = .ok (.aload_n 0, 1) := by decide +kernel
theorem dX2_addPerson_26 : decode cX2_addPerson 26 = .ok (.getfield 33, 3) := by decide +kernel
theorem dX2_addPerson_29 : decode cX2_addPerson 29 = .ok (.iconst 0, 1) := by decide +kernel
theorem dX2_addPerson_30 : decode cX2_addPerson 30 = .ok (.iastore, 1) := by decide +kernel
theorem dX2_addPerson_31 : decode cX2_addPerson 31 = .ok (.aload_n 0, 1) := by decide +kernel
theorem dX2_addPerson_32 : decode cX2_addPerson 32 = .ok (.dup, 1) := by decide +kernel
theorem dX2_addPerson_33 : decode cX2_addPerson 33 = .ok (.getfield 33, 3) := by decide +kernel
theorem dX2_addPerson_36 : decode cX2_addPerson 36 = .ok (.iconst 1, 1) := by decide +kernel
theorem dX2_addPerson_37 : decode cX2_addPerson 37 = .ok (.iadd, 1) := by decide +kernel
theorem dX2_addPerson_38 : decode cX2_addPerson 38 = .ok (.putfield 33, 3) := by decide +kernel
theorem dX2_addPerson_41 : decode cX2_addPerson 41 = .ok (.iconst 1, 1) := by decide +kernel
theorem dX2_addPerson_42 : decode cX2_addPerson 42 = .ok (.ireturn, 1) := by decide +kernel
set_option maxRecDepth 20000 in
theorem ggX2_addThing_X2_isPerson : GoodIn wsX2_addThing wsX2_isPerson := goodIn_r _ [11, 12, 13, 14, 15, 16, 17, 18, 19, 20, 21, 22] (by decide +kernel) (by decide +kernel)
set_option maxRecDepth 20000 in
theorem gX2_addThing_X2_isPerson : GoodIn wsX2_addThing (wsV RX2 49 RX2 yX2_isPerson wsX2_isPerson) := goodIn_app (goodIn_of _ (by decide +kernel)) ggX2_addThing_X2_isPerson
theorem dX2_addThing_0 : decode cX2_addThing 0 = .ok (.aload_n 0, 1) := by decide +kernel
theorem dX2_addThing_1 : decode cX2_addThing 1 = .ok (.getfield 37, 3) := by decide +kernel
theorem dX2_addThing_4 : decode cX2_addThing 4 = .ok (.bipush 9, 2) := by decide +kernel
theorem dX2_addThing_6 : decode cX2_addThing 6 = .ok (.if_icmp .ge 11, 3) := by decide +kernel
theorem dX2_addThing_9 : decode cX2_addThing 9 = .ok (.aload_n 0, 1) := by decide +kernel
theorem dX2_addThing_10 : decode cX2_addThing 10 = .ok (.iload_n 3, 1) := by decide +kernel
theorem dX2_addThing_11 : decode cX2_addThing 11 = .ok (.invokevirtual 49, 3) := by decide +kernel
theorem dX2_addThing_14 : decode cX2_addThing 14 = .ok (.ifCond .ne 5, 3) := by decide +kernel
theorem dX2_addThing_17 : decode cX2_addThing 17 = .ok (.iconst 0, 1) := by decide +kernel
theorem dX2_addThing_18 : decode cX2_addThing 18 = .ok (.ireturn, 1) := by decide +kernel
theorem dX2_addThing_19 : decode cX2_addThing 19 = .ok (.aload_n 0, 1) := by decide +kernel
theorem dX2_addThing_20 : decode cX2_addThing 20 = .ok (.getfield 18, 3) := by decide +kernel
theorem dX2_addThing_23 : decode cX2_addThing 23 = .ok (.aload_n 0, 1) := by decide +kernel
theorem dX2_addThing_24 : decode cX2_addThing 24 = .ok (.getfield 37, 3) := by decide +kernel
theorem dX2_addThing_27 : decode cX2_addThing 27 = .ok (.iload_n 1, 1) := by decide +kernel
theorem dX2_addThing_28 : decode cX2_addThing 28 = .ok (.iastore, 1) := by decide +kernel
theorem dX2_addThing_29 : decode cX2_addThing 29 = .ok (.aload_n 0, 1) := by decide +kernel
theorem dX2_addThing_30 : decode cX2_addThing 30 = .ok (.getfield 21, 3) := by decide +kernel
theorem dX2_addThing_33 : decode cX2_addThing 33 = .ok (.aload_n 0, 1) := by decide +kernel
theorem dX2_addThing_34 : decode cX2_addThing 34 = .ok (.getfield 37, 3) := by decide +kernel
theorem dX2_addThing_37 : decode cX2_addThing 37 = .ok (.iload_n 2, 1) := by decide +kernel
theorem dX2_addThing_38 : decode cX2_addThing 38 = .ok (.iastore, 1) := by decide +kernel
theorem dX2_addThing_39 : decode cX2_addThing 39 = .ok (.aload_n 0, 1) := by decide +kernel
theorem dX2_addThing_40 : decode cX2_addThing 40 = .ok (.getfield 24, 3) := by decide +kernel
theorem dX2_addThing_43 : decode cX2_addThing 43 = .ok (.aload_n 0, 1) := by decide +kernel
theorem dX2_addThing_44 : decode cX2_addThing 44 = .ok (.getfield 37, 3) := by decide +kernel
theorem dX2_addThing_47 : decode cX2_addThing 47 = .ok (.iload_n 3, 1) := by decide +kernel
theorem dX2_addThing_48 : decode cX2_addThing 48 = .ok (.iastore, 1) := by decide +kernel
theorem dX2_addThing_49 : decode cX2_addThing 49 = .ok (.aload_n 0, 1) := by decide +kernel
theorem dX2_addThing_50 : decode cX2_addThing 50 = .ok (.getfield 27, 3) := by decide +kernel
theorem dX2_addThing_53 : decode cX2_addThing 53 = .ok (.aload_n 0, 1) := by decide +kernel
theorem dX2_addThing_54 : decode cX2_addThing 54 = .ok (.getfield 37, 3) := by decide +kernel
theorem dX2_addThing_57 : decode cX2_addThing 57 = .ok (.iconst 0, 1) := by decide +kernel
theorem dX2_addThing_58 : decode cX2_addThing 58 = .ok (.iastore, 1) := by decide +kernel
theorem dX2_addThing_59 : decode cX2_addThing 59 = .ok (.aload_n 0, 1) := by decide +kernel
theorem dX2_addThing_60 : decode cX2_addThing 60 = .ok (.getfield 30, 3) := by decide +kernel
theorem dX2_addThing_63 : decode cX2_addThing 63 = .ok (.aload_n 0, 1) := by decide +kernel
theorem dX2_addThing_64 : decode cX2_addThing 64 = .ok (.getfield 37, 3) := by decide +kernel
theorem dX2_addThing_67 : decode cX2_addThing 67 = .ok (.bipush (-9), 2) := by decide +kernel
theorem dX2_addThing_69 : decode cX2_addThing 69 = .ok (.iastore, 1) := by decide +kernel
theorem dX2_addThing_70 : decode cX2_addThing 70 = .ok (.aload_n 0, 1) := by decide +kernel
theorem dX2_addThing_71 : decode cX2_addThing 71 = .ok (.dup, 1) := by decide +kernel
theorem dX2_addThing_72 : decode cX2_addThing 72 = .ok (.getfield 37, 3) := by decide +kernel
theorem dX2_addThing_75 : decode cX2_addThing 75 = .ok (.iconst 1, 1) := by decide +kernel
theorem dX2_addThing_76 : decode cX2_addThing 76 = .ok (.iadd, 1) := by decide +kernel
theorem dX2_addThing_77 : decode cX2_addThing 77 = .ok (.putfield 37, 3) := by decide +kernel
theorem dX2_addThing_80 : decode cX2_addThing 80 = .ok (.iconst 1, 1) := by decide +kernel
theorem dX2_addThing_81 : decode cX2_addThing 81 = .ok (.ireturn, 1) := by decide +kernel
set_option maxRecDepth 20000 in
theorem ggX2_hardOf_X2_isPerson : GoodIn wsX2_hardOf wsX2_isPerson := goodIn_r _ [13, 14, 15, 16, 17, 18, 19, 20, 21, 22, 23, 24] (by decide +kernel) (by decide +kernel)
set_option maxRecDepth 20000 in
theorem gX2_hardOf_X2_isPerson : GoodIn wsX2_hardOf (wsV RX2 49 RX2 yX2_isPerson wsX2_isPerson) := goodIn_app (goodIn_of _ (by decide +kernel)) ggX2_hardOf_X2_isPerson
theorem dX2_hardOf_0 : decode cX2_hardOf 0 = .ok (.aload_n 0, 1) := by decide +kernel
theorem dX2_hardOf_1 : decode cX2_hardOf 1 = .ok (.getfield 21, 3) := by decide +kernel
theorem dX2_hardOf_4 : decode cX2_hardOf 4 = .ok (.iload_n 1, 1) := by decide +kernel
theorem dX2_hardOf_5 : decode cX2_hardOf 5 = .ok (.iaload, 1) := by decide +kernel
theorem dX2_hardOf_6 : decode cX2_hardOf 6 = .ok (.istore_n 2, 1) := by decide +kernel
theorem dX2_hardOf_7 : decode cX2_hardOf 7 = .ok (.bipush 9, 2) := by decide +kernel
theorem dX2_hardOf_9 : decode cX2_hardOf 9 = .ok (.iload_n 2, 1) := by decide +kernel
theorem dX2_hardOf_10 : decode cX2_hardOf 10 = .ok (.iconst 1, 1) := by decide +kernel
theorem dX2_hardOf_11 : decode cX2_hardOf 11 = .ok (.iadd, 1) := by decide +kernel
theorem dX2_hardOf_12 : decode cX2_hardOf 12 = .ok (.invokestatic 53, 3) := by decide +kernel
theorem dX2_hardOf_15 : decode cX2_hardOf 15 = .ok (.istore_n 3, 1) := by decide +kernel
theorem dX2_hardOf_16 : decode cX2_hardOf 16 = .ok (.aload_n 0, 1) := by decide +kernel
theorem dX2_hardOf_17 : decode cX2_hardOf 17 = .ok (.getfield 24, 3) := by decide +kernel
theorem dX2_hardOf_20 : decode cX2_hardOf 20 = .ok (.iload_n 1, 1) := by decide +kernel
theorem dX2_hardOf_21 : decode cX2_hardOf 21 = .ok (.iaload, 1) := by decide +kernel
theorem dX2_hardOf_22 : decode cX2_hardOf 22 = .ok (.istore 4, 2) := by decide +kernel
theorem dX2_hardOf_24 : decode cX2_hardOf 24 = .ok (.aload_n 0, 1) := by decide +kernel
theorem dX2_hardOf_25 : decode cX2_hardOf 25 = .ok (.getfield 18, 3) := by decide +kernel
theorem dX2_hardOf_28 : decode cX2_hardOf 28 = .ok (.iload_n 1, 1) := by decide +kernel
theorem dX2_hardOf_29 : decode cX2_hardOf 29 = .ok (.iaload, 1) := by decide +kernel
theorem dX2_hardOf_30 : decode cX2_hardOf 30 = .ok (.tableswitch 75 1 5 #[34, 75, 38, 40, 49], 34) := by decide +kernel
theorem dX2_hardOf_64 : decode cX2_hardOf 64 = .ok (.iload_n 2, 1) := by decide +kernel
theorem dX2_hardOf_65 : decode cX2_hardOf 65 = .ok (.iconst 2, 1) := by decide +kernel
theorem dX2_hardOf_66 : decode cX2_hardOf 66 = .ok (.idiv, 1) := by decide +kernel
theorem dX2_hardOf_67 : decode cX2_hardOf 67 = .ok (.ireturn, 1) := by decide +kernel
theorem dX2_hardOf_68 : decode cX2_hardOf 68 = .ok (.iload_n 3, 1) := by decide +kernel
theorem dX2_hardOf_69 : decode cX2_hardOf 69 = .ok (.ireturn, 1) := by decide +kernel
theorem dX2_hardOf_70 : decode cX2_hardOf 70 = .ok (.bipush 9, 2) := by decide +kernel
theorem dX2_hardOf_72 : decode cX2_hardOf 72 = .ok (.iload_n 2, 1) := by decide +kernel
theorem dX2_hardOf_73 : decode cX2_hardOf 73 = .ok (.iconst 2, 1) := by decide +kernel
theorem dX2_hardOf_74 : decode cX2_hardOf 74 = .ok (.iadd, 1) := by decide +kernel
theorem dX2_hardOf_75 : decode cX2_hardOf 75 = .ok (.invokestatic 53, 3) := by decide +kernel
theorem dX2_hardOf_78 : decode cX2_hardOf 78 = .ok (.ireturn, 1) := by decide +kernel
theorem dX2_hardOf_79 : decode cX2_hardOf 79 = .ok (.aload_n 0, 1) := by decide +kernel
theorem dX2_hardOf_80 : decode cX2_hardOf 80 = .ok (.iload 4, 2) := by decide +kernel
theorem dX2_hardOf_82 : decode cX2_hardOf 82 = .ok (.invokevirtual 49, 3) := by decide +kernel
theorem dX2_hardOf_85 : decode cX2_hardOf 85 = .ok (.ifCond .eq 18, 3) := by decide +kernel
theorem dX2_hardOf_88 : decode cX2_hardOf 88 = .ok (.aload_n 0, 1) := by decide +kernel
theorem dX2_hardOf_89 : decode cX2_hardOf 89 = .ok (.getfield 9, 3) := by decide +kernel
theorem dX2_hardOf_92 : decode cX2_hardOf 92 = .ok (.iload 4, 2) := by decide +kernel
theorem dX2_hardOf_94 : decode cX2_hardOf 94 = .ok (.iaload, 1) := by decide +kernel
theorem dX2_hardOf_95 : decode cX2_hardOf 95 = .ok (.iconst 5, 1) := by decide +kernel
theorem dX2_hardOf_96 : decode cX2_hardOf 96 = .ok (.if_icmp .lt 7, 3) := by decide +kernel
theorem dX2_hardOf_99 : decode cX2_hardOf 99 = .ok (.iconst 0, 1) := by decide +kernel
theorem dX2_hardOf_100 : decode cX2_hardOf 100 = .ok (.goto 4, 3) := by decide +kernel
theorem dX2_hardOf_103 : decode cX2_hardOf 103 = .ok (.iload_n 3, 1) := by decide +kernel
theorem dX2_hardOf_104 : decode cX2_hardOf 104 = .ok (.ireturn, 1) := by decide +kernel
theorem dX2_hardOf_105 : decode cX2_hardOf 105 = .ok (.iload_n 2, 1) := by decide +kernel
theorem dX2_hardOf_106 : decode cX2_hardOf 106 = .ok (.ireturn, 1) := by decide +kernel
theorem dX2_moreWearOf_0 : decode cX2_moreWearOf 0 = .ok (.iload_n 2, 1) := by decide +kernel
theorem dX2_moreWearOf_1 : decode cX2_moreWearOf 1 = .ok (.iconst 2, 1) := by decide +kernel
theorem dX2_moreWearOf_2 : decode cX2_moreWearOf 2 = .ok (.irem, 1) := by decide +kernel
theorem dX2_moreWearOf_3 : decode cX2_moreWearOf 3 = .ok (.ifCond .ne 7, 3) := by decide +kernel
theorem dX2_moreWearOf_6 : decode cX2_moreWearOf 6 = .ok (.iconst 1, 1) := by decide +kernel
theorem dX2_moreWearOf_7 : decode cX2_moreWearOf 7 = .ok (.goto 4, 3) := by decide +kernel
theorem dX2_moreWearOf_10 : decode cX2_moreWearOf 10 = .ok (.iconst 0, 1) := by decide +kernel
theorem dX2_moreWearOf_11 : decode cX2_moreWearOf 11 = .ok (.istore_n 3, 1) := by decide +kernel
theorem dX2_moreWearOf_12 : decode cX2_moreWearOf 12 = .ok (.iload_n 3, 1) := by decide +kernel
theorem dX2_moreWearOf_13 : decode cX2_moreWearOf 13 = .ok (.iconst 1, 1) := by decide +kernel
theorem dX2_moreWearOf_14 : decode cX2_moreWearOf 14 = .ok (.iadd, 1) := by decide +kernel
theorem dX2_moreWearOf_15 : decode cX2_moreWearOf 15 = .ok (.istore 4, 2) := by decide +kernel
theorem dX2_moreWearOf_17 : decode cX2_moreWearOf 17 = .ok (.iload 4, 2) := by decide +kernel
theorem dX2_moreWearOf_19 : decode cX2_moreWearOf 19 = .ok (.iconst 1, 1) := by decide +kernel
theorem dX2_moreWearOf_20 : decode cX2_moreWearOf 20 = .ok (.iadd, 1) := by decide +kernel
theorem dX2_moreWearOf_21 : decode cX2_moreWearOf 21 = .ok (.istore 5, 2) := by decide +kernel
theorem dX2_moreWearOf_23 : decode cX2_moreWearOf 23 = .ok (.aload_n 0, 1) := by decide +kernel
theorem dX2_moreWearOf_24 : decode cX2_moreWearOf 24 = .ok (.getfield 18, 3) := by decide +kernel
theorem dX2_moreWearOf_27 : decode cX2_moreWearOf 27 = .ok (.iload_n 1, 1) := by decide +kernel
theorem dX2_moreWearOf_28 : decode cX2_moreWearOf 28 = .ok (.iaload, 1) := by decide +kernel
theorem dX2_moreWearOf_29 : decode cX2_moreWearOf 29 = .ok (.tableswitch 59 1 5 #[35, 37, 40, 43, 54], 35) := by decide +kernel
theorem dX2_moreWearOf_64 : decode cX2_moreWearOf 64 = .ok (.iconst 0, 1) := by decide +kernel
theorem dX2_moreWearOf_65 : decode cX2_moreWearOf 65 = .ok (.ireturn, 1) := by decide +kernel
theorem dX2_moreWearOf_66 : decode cX2_moreWearOf 66 = .ok (.iload 4, 2) := by decide +kernel
theorem dX2_moreWearOf_68 : decode cX2_moreWearOf 68 = .ok (.ireturn, 1) := by decide +kernel
theorem dX2_moreWearOf_69 : decode cX2_moreWearOf 69 = .ok (.iload 5, 2) := by decide +kernel
theorem dX2_moreWearOf_71 : decode cX2_moreWearOf 71 = .ok (.ireturn, 1) := by decide +kernel
theorem dX2_moreWearOf_72 : decode cX2_moreWearOf 72 = .ok (.iload_n 3, 1) := by decide +kernel
theorem dX2_moreWearOf_73 : decode cX2_moreWearOf 73 = .ok (.aload_n 0, 1) := by decide +kernel
theorem dX2_moreWearOf_74 : decode cX2_moreWearOf 74 = .ok (.getfield 21, 3) := by decide +kernel
theorem dX2_moreWearOf_77 : decode cX2_moreWearOf 77 = .ok (.iload_n 1, 1) := by decide +kernel
theorem dX2_moreWearOf_78 : decode cX2_moreWearOf 78 = .ok (.iaload, 1) := by decide +kernel
theorem dX2_moreWearOf_79 : decode cX2_moreWearOf 79 = .ok (.iconst 4, 1) := by decide +kernel
theorem dX2_moreWearOf_80 : decode cX2_moreWearOf 80 = .ok (.idiv, 1) := by decide +kernel
theorem dX2_moreWearOf_81 : decode cX2_moreWearOf 81 = .ok (.iadd, 1) := by decide +kernel
theorem dX2_moreWearOf_82 : decode cX2_moreWearOf 82 = .ok (.ireturn, 1) := by decide +kernel
theorem dX2_moreWearOf_83 : decode cX2_moreWearOf 83 = .ok (.iload 5, 2) := by decide +kernel
theorem dX2_moreWearOf_85 : decode cX2_moreWearOf 85 = .ok (.iconst 2, 1) := by decide +kernel
theorem dX2_moreWearOf_86 : decode cX2_moreWearOf 86 = .ok (.idiv, 1) := by decide +kernel
theorem dX2_moreWearOf_87 : decode cX2_moreWearOf 87 = .ok (.ireturn, 1) := by decide +kernel
theorem dX2_moreWearOf_88 : decode cX2_moreWearOf 88 = .ok (.iload_n 3, 1) := by decide +kernel
theorem dX2_moreWearOf_89 : decode cX2_moreWearOf 89 = .ok (.ireturn, 1) := by decide +kernel
set_option maxRecDepth 20000 in
theorem ggX2_ableBits_X2_hardOf : GoodIn wsX2_ableBits wsX2_hardOf := goodIn_r _ [7, 8, 9, 10, 11, 12, 13, 14, 2, 15, 16, 17, 6, 18, 1, 19, 20, 21, 22, 23, 24, 25, 26, 27, 28] (by decide +kernel) (by decide +kernel)
set_option maxRecDepth 20000 in
theorem gX2_ableBits_X2_hardOf : GoodIn wsX2_ableBits (wsV RX2 59 RX2 yX2_hardOf wsX2_hardOf) := goodIn_app (goodIn_of _ (by decide +kernel)) ggX2_ableBits_X2_hardOf
theorem dX2_ableBits_0 : decode cX2_ableBits 0 = .ok (.aload_n 0, 1) := by decide +kernel
theorem dX2_ableBits_1 : decode cX2_ableBits 1 = .ok (.iload_n 1, 1) := by decide +kernel
theorem dX2_ableBits_2 : decode cX2_ableBits 2 = .ok (.invokevirtual 59, 3) := by decide +kernel
theorem dX2_ableBits_5 : decode cX2_ableBits 5 = .ok (.istore_n 2, 1) := by decide +kernel
theorem dX2_ableBits_6 : decode cX2_ableBits 6 = .ok (.iconst 0, 1) := by decide +kernel
theorem dX2_ableBits_7 : decode cX2_ableBits 7 = .ok (.istore_n 3, 1) := by decide +kernel
theorem dX2_ableBits_8 : decode cX2_ableBits 8 = .ok (.iconst 0, 1) := by decide +kernel
theorem dX2_ableBits_9 : decode cX2_ableBits 9 = .ok (.istore 4, 2) := by decide +kernel
theorem dX2_ableBits_11 : decode cX2_ableBits 11 = .ok (.iload 4, 2) := by decide +kernel
theorem dX2_ableBits_13 : decode cX2_ableBits 13 = .ok (.aload_n 0, 1) := by decide +kernel
theorem dX2_ableBits_14 : decode cX2_ableBits 14 = .ok (.getfield 33, 3) := by decide +kernel
theorem dX2_ableBits_17 : decode cX2_ableBits 17 = .ok (.if_icmp .ge 27, 3) := by decide +kernel
theorem dX2_ableBits_20 : decode cX2_ableBits 20 = .ok (.aload_n 0, 1) := by decide +kernel
theorem dX2_ableBits_21 : decode cX2_ableBits 21 = .ok (.getfield 9, 3) := by decide +kernel
theorem dX2_ableBits_24 : decode cX2_ableBits 24 = .ok (.iload 4, 2) := by decide +kernel
theorem dX2_ableBits_26 : decode cX2_ableBits 26 = .ok (.iaload, 1) := by decide +kernel
theorem dX2_ableBits_27 : decode cX2_ableBits 27 = .ok (.iload_n 2, 1) := by decide +kernel
theorem dX2_ableBits_28 : decode cX2_ableBits 28 = .ok (.if_icmp .lt 10, 3) := by decide +kernel
theorem dX2_ableBits_31 : decode cX2_ableBits 31 = .ok (.iload_n 3, 1) := by decide +kernel
theorem dX2_ableBits_32 : decode cX2_ableBits 32 = .ok (.iconst 1, 1) := by decide +kernel
theorem dX2_ableBits_33 : decode cX2_ableBits 33 = .ok (.iload 4, 2) := by decide +kernel
theorem dX2_ableBits_35 : decode cX2_ableBits 35 = .ok (.ishl, 1) := by decide +kernel
theorem dX2_ableBits_36 : decode cX2_ableBits 36 = .ok (.ior, 1) := by decide +kernel
theorem dX2_ableBits_37 : decode cX2_ableBits 37 = .ok (.istore_n 3, 1) := by decide +kernel
theorem dX2_ableBits_38 : decode cX2_ableBits 38 = .ok (.iinc 4 1, 3) := by decide +kernel
theorem dX2_ableBits_41 : decode cX2_ableBits 41 = .ok (.goto (-30), 3) := by decide +kernel
theorem dX2_ableBits_44 : decode cX2_ableBits 44 = .ok (.iload_n 3, 1) := by decide +kernel
theorem dX2_ableBits_45 : decode cX2_ableBits 45 = .ok (.ireturn, 1) := by decide +kernel
set_option maxRecDepth 20000 in
theorem ggX2_mayMend_X2_hardOf : GoodIn wsX2_mayMend wsX2_hardOf := goodIn_r _ [7, 8, 9, 10, 11, 12, 13, 14, 2, 15, 16, 17, 6, 18, 19, 20, 21, 22, 23, 24, 25, 26, 27, 28, 29] (by decide +kernel) (by decide +kernel)
set_option maxRecDepth 20000 in
theorem gX2_mayMend_X2_hardOf : GoodIn wsX2_mayMend (wsV RX2 59 RX2 yX2_hardOf wsX2_hardOf) := goodIn_app (goodIn_of _ (by decide +kernel)) ggX2_mayMend_X2_hardOf
theorem dX2_mayMend_0 : decode cX2_mayMend 0 = .ok (.aload_n 0, 1) := by decide +kernel
theorem dX2_mayMend_1 : decode cX2_mayMend 1 = .ok (.getfield 30, 3) := by decide +kernel
theorem dX2_mayMend_4 : decode cX2_mayMend 4 = .ok (.iload_n 2, 1) := by decide +kernel
theorem dX2_mayMend_5 : decode cX2_mayMend 5 = .ok (.iaload, 1) := by decide +kernel
theorem dX2_mayMend_6 : decode cX2_mayMend 6 = .ok (.istore_n 3, 1) := by decide +kernel
theorem dX2_mayMend_7 : decode cX2_mayMend 7 = .ok (.iload_n 3, 1) := by decide +kernel
theorem dX2_mayMend_8 : decode cX2_mayMend 8 = .ok (.ifCond .lt 26, 3) := by decide +kernel
theorem dX2_mayMend_11 : decode cX2_mayMend 11 = .ok (.iload_n 3, 1) := by decide +kernel
theorem dX2_mayMend_12 : decode cX2_mayMend 12 = .ok (.iload_n 1, 1) := by decide +kernel
theorem dX2_mayMend_13 : decode cX2_mayMend 13 = .ok (.if_icmp .eq 21, 3) := by decide +kernel
theorem dX2_mayMend_16 : decode cX2_mayMend 16 = .ok (.aload_n 0, 1) := by decide +kernel
theorem dX2_mayMend_17 : decode cX2_mayMend 17 = .ok (.getfield 9, 3) := by decide +kernel
theorem dX2_mayMend_20 : decode cX2_mayMend 20 = .ok (.iload_n 1, 1) := by decide +kernel
theorem dX2_mayMend_21 : decode cX2_mayMend 21 = .ok (.iaload, 1) := by decide +kernel
theorem dX2_mayMend_22 : decode cX2_mayMend 22 = .ok (.aload_n 0, 1) := by decide +kernel
theorem dX2_mayMend_23 : decode cX2_mayMend 23 = .ok (.iload_n 2, 1) := by decide +kernel
theorem dX2_mayMend_24 : decode cX2_mayMend 24 = .ok (.invokevirtual 59, 3) := by decide +kernel
theorem dX2_mayMend_27 : decode cX2_mayMend 27 = .ok (.if_icmp .lt 7, 3) := by decide +kernel
theorem dX2_mayMend_30 : decode cX2_mayMend 30 = .ok (.iconst 1, 1) := by decide +kernel
theorem dX2_mayMend_31 : decode cX2_mayMend 31 = .ok (.goto 4, 3) := by decide +kernel
theorem dX2_mayMend_34 : decode cX2_mayMend 34 = .ok (.iconst 0, 1) := by decide +kernel
theorem dX2_mayMend_35 : decode cX2_mayMend 35 = .ok (.ireturn, 1) := by decide +kernel
set_option maxRecDepth 20000 in
theorem ggX2_mendersNow_X2_mayMend : GoodIn wsX2_mendersNow wsX2_mayMend := goodIn_r _ [6, 7, 8, 9, 10, 11, 5, 12, 13, 14, 15, 16, 17, 18, 19, 20, 21, 22, 23, 1, 24, 25, 26, 27, 28, 29, 30, 31, 32, 33] (by decide +kernel) (by decide +kernel)
set_option maxRecDepth 20000 in
theorem gX2_mendersNow_X2_mayMend : GoodIn wsX2_mendersNow (wsV RX2 63 RX2 yX2_mayMend wsX2_mayMend) := goodIn_app (goodIn_of _ (by decide +kernel)) ggX2_mendersNow_X2_mayMend
theorem dX2_mendersNow_0 : decode cX2_mendersNow 0 = .ok (.iconst 0, 1) := by decide +kernel
theorem dX2_mendersNow_1 : decode cX2_mendersNow 1 = .ok (.istore_n 2, 1) := by decide +kernel
theorem dX2_mendersNow_2 : decode cX2_mendersNow 2 = .ok (.iconst 0, 1) := by decide +kernel
theorem dX2_mendersNow_3 : decode cX2_mendersNow 3 = .ok (.istore_n 3, 1) := by decide +kernel
theorem dX2_mendersNow_4 : decode cX2_mendersNow 4 = .ok (.iload_n 3, 1) := by decide +kernel
theorem dX2_mendersNow_5 : decode cX2_mendersNow 5 = .ok (.aload_n 0, 1) := by decide +kernel
theorem dX2_mendersNow_6 : decode cX2_mendersNow 6 = .ok (.getfield 33, 3) := by decide +kernel
theorem dX2_mendersNow_9 : decode cX2_mendersNow 9 = .ok (.if_icmp .ge 21, 3) := by decide +kernel
theorem dX2_mendersNow_12 : decode cX2_mendersNow 12 = .ok (.aload_n 0, 1) := by decide +kernel
theorem dX2_mendersNow_13 : decode cX2_mendersNow 13 = .ok (.iload_n 3, 1) := by decide +kernel
theorem dX2_mendersNow_14 : decode cX2_mendersNow 14 = .ok (.iload_n 1, 1) := by decide +kernel
theorem dX2_mendersNow_15 : decode cX2_mendersNow 15 = .ok (.invokevirtual 63, 3) := by decide +kernel
theorem dX2_mendersNow_18 : decode cX2_mendersNow 18 = .ok (.ifCond .eq 6, 3) := by decide +kernel
theorem dX2_mendersNow_21 : decode cX2_mendersNow 21 = .ok (.iinc 2 1, 3) := by decide +kernel
theorem dX2_mendersNow_24 : decode cX2_mendersNow 24 = .ok (.iinc 3 1, 3) := by decide +kernel
theorem dX2_mendersNow_27 : decode cX2_mendersNow 27 = .ok (.goto (-23), 3) := by decide +kernel
theorem dX2_mendersNow_30 : decode cX2_mendersNow 30 = .ok (.iload_n 2, 1) := by decide +kernel
theorem dX2_mendersNow_31 : decode cX2_mendersNow 31 = .ok (.ireturn, 1) := by decide +kernel
theorem dX2_mend_0 : decode cX2_mend 0 = .ok (.aload_n 0, 1) := by decide +kernel
theorem dX2_mend_1 : decode cX2_mend 1 = .ok (.getfield 30, 3) := by decide +kernel
theorem dX2_mend_4 : decode cX2_mend 4 = .ok (.iload_n 2, 1) := by decide +kernel
theorem dX2_mend_5 : decode cX2_mend 5 = .ok (.bipush (-9), 2) := by decide +kernel
theorem dX2_mend_7 : decode cX2_mend 7 = .ok (.iastore, 1) := by decide +kernel
theorem dX2_mend_8 : decode cX2_mend 8 = .ok (.aload_n 0, 1) := by decide +kernel
theorem dX2_mend_9 : decode cX2_mend 9 = .ok (.getfield 27, 3) := by decide +kernel
theorem dX2_mend_12 : decode cX2_mend 12 = .ok (.iload_n 2, 1) := by decide +kernel
theorem dX2_mend_13 : decode cX2_mend 13 = .ok (.iconst 0, 1) := by decide +kernel
theorem dX2_mend_14 : decode cX2_mend 14 = .ok (.iastore, 1) := by decide +kernel
theorem dX2_mend_15 : decode cX2_mend 15 = .ok (.aload_n 0, 1) := by decide +kernel
theorem dX2_mend_16 : decode cX2_mend 16 = .ok (.getfield 15, 3) := by decide +kernel
theorem dX2_mend_19 : decode cX2_mend 19 = .ok (.iload_n 1, 1) := by decide +kernel
theorem dX2_mend_20 : decode cX2_mend 20 = .ok (.sipush 999, 3) := by decide +kernel
theorem dX2_mend_23 : decode cX2_mend 23 = .ok (.aload_n 0, 1) := by decide +kernel
theorem dX2_mend_24 : decode cX2_mend 24 = .ok (.getfield 15, 3) := by decide +kernel
theorem dX2_mend_27 : decode cX2_mend 27 = .ok (.iload_n 1, 1) := by decide +kernel
theorem dX2_mend_28 : decode cX2_mend 28 = .ok (.iaload, 1) := by decide +kernel
theorem dX2_mend_29 : decode cX2_mend 29 = .ok (.iconst 1, 1) := by decide +kernel
theorem dX2_mend_30 : decode cX2_mend 30 = .ok (.iadd, 1) := by decide +kernel
theorem dX2_mend_31 : decode cX2_mend 31 = .ok (.invokestatic 53, 3) := by decide +kernel
theorem dX2_mend_34 : decode cX2_mend 34 = .ok (.iastore, 1) := by decide +kernel
theorem dX2_mend_35 : decode cX2_mend 35 = .ok (.return_, 1) := by decide +kernel
set_option maxRecDepth 20000 in
theorem ggX2_pass_X2_wearAll : GoodIn wsX2_pass wsX2_wearAll := goodIn_r _ [7, 8, 1, 9, 10, 11, 6, 12, 13, 14, 15, 16, 17, 18, 19, 20, 21, 22, 23, 24, 56, 57, 58, 59, 60, 61, 62, 63, 64, 65] (by decide +kernel) (by decide +kernel)
set_option maxRecDepth 20000 in
theorem gX2_pass_X2_wearAll : GoodIn wsX2_pass (wsV RX2 67 RX2 yX2_wearAll wsX2_wearAll) := goodIn_app (goodIn_of _ (by decide +kernel)) ggX2_pass_X2_wearAll
set_option maxRecDepth 20000 in
theorem ggX2_pass_X2_canBeMended : GoodIn wsX2_pass wsX2_canBeMended := goodIn_r _ [28, 8, 13, 56, 57, 58, 59, 60, 61, 62, 63, 64, 65] (by decide +kernel) (by decide +kernel)
set_option maxRecDepth 20000 in
theorem gX2_pass_X2_canBeMended : GoodIn wsX2_pass (wsV RX2 71 RX2 yX2_canBeMended wsX2_canBeMended) := goodIn_app (goodIn_of _ (by decide +kernel)) ggX2_pass_X2_canBeMended
set_option maxRecDepth 20000 in
theorem ggX2_pass_X2_mendLeast : GoodIn wsX2_pass wsX2_mendLeast := goodIn_r _ [32, 8, 33, 34, 35, 6, 36, 13, 37, 38, 39, 40, 41, 19, 42, 43, 44, 45, 46, 18, 47, 48, 49, 50, 2, 51, 52, 53, 54, 24, 55, 56, 57, 58, 59, 60, 61, 62, 63, 64, 65] (by decide +kernel) (by decide +kernel)
set_option maxRecDepth 20000 in
theorem gX2_pass_X2_mendLeast : GoodIn wsX2_pass (wsV RX2 75 RX2 yX2_mendLeast wsX2_mendLeast) := goodIn_app (goodIn_of _ (by decide +kernel)) ggX2_pass_X2_mendLeast
theorem dX2_pass_0 : decode cX2_pass 0 = .ok (.iconst 0, 1) := by decide +kernel
theorem dX2_pass_1 : decode cX2_pass 1 = .ok (.istore 4, 2) := by decide +kernel
theorem dX2_pass_3 : decode cX2_pass 3 = .ok (.iload 4, 2) := by decide +kernel
theorem dX2_pass_5 : decode cX2_pass 5 = .ok (.iload_n 1, 1) := by decide +kernel
theorem dX2_pass_6 : decode cX2_pass 6 = .ok (.if_icmp .ge 61, 3) := by decide +kernel
theorem dX2_pass_9 : decode cX2_pass 9 = .ok (.aload_n 0, 1) := by decide +kernel
theorem dX2_pass_10 : decode cX2_pass 10 = .ok (.dup, 1) := by decide +kernel
theorem dX2_pass_11 : decode cX2_pass 11 = .ok (.getfield 40, 3) := by decide +kernel
theorem dX2_pass_14 : decode cX2_pass 14 = .ok (.iconst 1, 1) := by decide +kernel
theorem dX2_pass_15 : decode cX2_pass 15 = .ok (.iadd, 1) := by decide +kernel
theorem dX2_pass_16 : decode cX2_pass 16 = .ok (.putfield 40, 3) := by decide +kernel
theorem dX2_pass_19 : decode cX2_pass 19 = .ok (.aload_n 0, 1) := by decide +kernel
theorem dX2_pass_20 : decode cX2_pass 20 = .ok (.iload_n 2, 1) := by decide +kernel
theorem dX2_pass_21 : decode cX2_pass 21 = .ok (.invokevirtual 67, 3) := by decide +kernel
theorem dX2_pass_24 : decode cX2_pass 24 = .ok (.iconst 0, 1) := by decide +kernel
theorem dX2_pass_25 : decode cX2_pass 25 = .ok (.istore 5, 2) := by decide +kernel
theorem dX2_pass_27 : decode cX2_pass 27 = .ok (.iload 5, 2) := by decide +kernel
theorem dX2_pass_29 : decode cX2_pass 29 = .ok (.aload_n 0, 1) := by decide +kernel
theorem dX2_pass_30 : decode cX2_pass 30 = .ok (.getfield 33, 3) := by decide +kernel
theorem dX2_pass_33 : decode cX2_pass 33 = .ok (.if_icmp .ge 28, 3) := by decide +kernel
theorem dX2_pass_36 : decode cX2_pass 36 = .ok (.aload_n 0, 1) := by decide +kernel
theorem dX2_pass_37 : decode cX2_pass 37 = .ok (.invokevirtual 71, 3) := by decide +kernel
theorem dX2_pass_40 : decode cX2_pass 40 = .ok (.ifCond .eq 21, 3) := by decide +kernel
theorem dX2_pass_43 : decode cX2_pass 43 = .ok (.iload 5, 2) := by decide +kernel
theorem dX2_pass_45 : decode cX2_pass 45 = .ok (.iload_n 3, 1) := by decide +kernel
theorem dX2_pass_46 : decode cX2_pass 46 = .ok (.if_icmp .eq 9, 3) := by decide +kernel
theorem dX2_pass_49 : decode cX2_pass 49 = .ok (.aload_n 0, 1) := by decide +kernel
theorem dX2_pass_50 : decode cX2_pass 50 = .ok (.iload 5, 2) := by decide +kernel
theorem dX2_pass_52 : decode cX2_pass 52 = .ok (.invokevirtual 75, 3) := by decide +kernel
theorem dX2_pass_55 : decode cX2_pass 55 = .ok (.iinc 5 1, 3) := by decide +kernel
theorem dX2_pass_58 : decode cX2_pass 58 = .ok (.goto (-31), 3) := by decide +kernel
theorem dX2_pass_61 : decode cX2_pass 61 = .ok (.iinc 4 1, 3) := by decide +kernel
theorem dX2_pass_64 : decode cX2_pass 64 = .ok (.goto (-61), 3) := by decide +kernel
theorem dX2_pass_67 : decode cX2_pass 67 = .ok (.return_, 1) := by decide +kernel
theorem dX2_canBeMended_0 : decode cX2_canBeMended 0 = .ok (.iconst 0, 1) := by decide +kernel
theorem dX2_canBeMended_1 : decode cX2_canBeMended 1 = .ok (.istore_n 1, 1) := by decide +kernel
theorem dX2_canBeMended_2 : decode cX2_canBeMended 2 = .ok (.iload_n 1, 1) := by decide +kernel
theorem dX2_canBeMended_3 : decode cX2_canBeMended 3 = .ok (.aload_n 0, 1) := by decide +kernel
theorem dX2_canBeMended_4 : decode cX2_canBeMended 4 = .ok (.getfield 37, 3) := by decide +kernel
theorem dX2_canBeMended_7 : decode cX2_canBeMended 7 = .ok (.if_icmp .ge 20, 3) := by decide +kernel
theorem dX2_canBeMended_10 : decode cX2_canBeMended 10 = .ok (.aload_n 0, 1) := by decide +kernel
theorem dX2_canBeMended_11 : decode cX2_canBeMended 11 = .ok (.getfield 30, 3) := by decide +kernel
theorem dX2_canBeMended_14 : decode cX2_canBeMended 14 = .ok (.iload_n 1, 1) := by decide +kernel
theorem dX2_canBeMended_15 : decode cX2_canBeMended 15 = .ok (.iaload, 1) := by decide +kernel
theorem dX2_canBeMended_16 : decode cX2_canBeMended 16 = .ok (.ifCond .lt 5, 3) := by decide +kernel
theorem dX2_canBeMended_19 : decode cX2_canBeMended 19 = .ok (.iconst 1, 1) := by decide +kernel
theorem dX2_canBeMended_20 : decode cX2_canBeMended 20 = .ok (.ireturn, 1) := by decide +kernel
theorem dX2_canBeMended_21 : decode cX2_canBeMended 21 = .ok (.iinc 1 1, 3) := by decide +kernel
theorem dX2_canBeMended_24 : decode cX2_canBeMended 24 = .ok (.goto (-22), 3) := by decide +kernel
theorem dX2_canBeMended_27 : decode cX2_canBeMended 27 = .ok (.iconst 0, 1) := by decide +kernel
theorem dX2_canBeMended_28 : decode cX2_canBeMended 28 = .ok (.ireturn, 1) := by decide +kernel
set_option maxRecDepth 20000 in
theorem ggX2_wearAll_X2_isWhole : GoodIn wsX2_wearAll wsX2_isWhole := goodIn_r _ [7, 8, 20, 21, 22, 23, 24, 25, 26, 27, 28, 29] (by decide +kernel) (by decide +kernel)
set_option maxRecDepth 20000 in
theorem gX2_wearAll_X2_isWhole : GoodIn wsX2_wearAll (wsV RX2 78 RX2 yX2_isWhole wsX2_isWhole) := goodIn_app (goodIn_of _ (by decide +kernel)) ggX2_wearAll_X2_isWhole
set_option maxRecDepth 20000 in
theorem ggX2_wearAll_X2_moreWearOf : GoodIn wsX2_wearAll wsX2_moreWearOf := goodIn_r _ [12, 13, 14, 20, 21, 22, 23, 24, 25, 26, 27, 28, 29] (by decide +kernel) (by decide +kernel)
set_option maxRecDepth 20000 in
theorem gX2_wearAll_X2_moreWearOf : GoodIn wsX2_wearAll (wsV RX2 81 RX2 yX2_moreWearOf wsX2_moreWearOf) := goodIn_app (goodIn_of _ (by decide +kernel)) ggX2_wearAll_X2_moreWearOf
set_option maxRecDepth 20000 in
theorem ggX2_wearAll_X2_wearMore : GoodIn wsX2_wearAll wsX2_wearMore := goodIn_r _ [18, 19, 8, 20, 21, 22, 23, 24, 25, 26, 27, 28, 29] (by decide +kernel) (by decide +kernel)
set_option maxRecDepth 20000 in
theorem gX2_wearAll_X2_wearMore : GoodIn wsX2_wearAll (wsV RX2 84 RX2 yX2_wearMore wsX2_wearMore) := goodIn_app (goodIn_of _ (by decide +kernel)) ggX2_wearAll_X2_wearMore
theorem dX2_wearAll_0 : decode cX2_wearAll 0 = .ok (.iconst 0, 1) := by decide +kernel
theorem dX2_wearAll_1 : decode cX2_wearAll 1 = .ok (.istore_n 2, 1) := by decide +kernel
theorem dX2_wearAll_2 : decode cX2_wearAll 2 = .ok (.iload_n 2, 1) := by decide +kernel
theorem dX2_wearAll_3 : decode cX2_wearAll 3 = .ok (.aload_n 0, 1) := by decide +kernel
theorem dX2_wearAll_4 : decode cX2_wearAll 4 = .ok (.getfield 37, 3) := by decide +kernel
theorem dX2_wearAll_7 : decode cX2_wearAll 7 = .ok (.if_icmp .ge 33, 3) := by decide +kernel
theorem dX2_wearAll_10 : decode cX2_wearAll 10 = .ok (.aload_n 0, 1) := by decide +kernel
theorem dX2_wearAll_11 : decode cX2_wearAll 11 = .ok (.iload_n 2, 1) := by decide +kernel
theorem dX2_wearAll_12 : decode cX2_wearAll 12 = .ok (.invokevirtual 78, 3) := by decide +kernel
theorem dX2_wearAll_15 : decode cX2_wearAll 15 = .ok (.ifCond .eq 19, 3) := by decide +kernel
theorem dX2_wearAll_18 : decode cX2_wearAll 18 = .ok (.aload_n 0, 1) := by decide +kernel
theorem dX2_wearAll_19 : decode cX2_wearAll 19 = .ok (.iload_n 2, 1) := by decide +kernel
theorem dX2_wearAll_20 : decode cX2_wearAll 20 = .ok (.iload_n 1, 1) := by decide +kernel
theorem dX2_wearAll_21 : decode cX2_wearAll 21 = .ok (.aload_n 0, 1) := by decide +kernel
theorem dX2_wearAll_22 : decode cX2_wearAll 22 = .ok (.iload_n 2, 1) := by decide +kernel
theorem dX2_wearAll_23 : decode cX2_wearAll 23 = .ok (.aload_n 0, 1) := by decide +kernel
theorem dX2_wearAll_24 : decode cX2_wearAll 24 = .ok (.getfield 40, 3) := by decide +kernel
theorem dX2_wearAll_27 : decode cX2_wearAll 27 = .ok (.invokevirtual 81, 3) := by decide +kernel
theorem dX2_wearAll_30 : decode cX2_wearAll 30 = .ok (.imul, 1) := by decide +kernel
theorem dX2_wearAll_31 : decode cX2_wearAll 31 = .ok (.invokevirtual 84, 3) := by decide +kernel
theorem dX2_wearAll_34 : decode cX2_wearAll 34 = .ok (.iinc 2 1, 3) := by decide +kernel
theorem dX2_wearAll_37 : decode cX2_wearAll 37 = .ok (.goto (-35), 3) := by decide +kernel
theorem dX2_wearAll_40 : decode cX2_wearAll 40 = .ok (.return_, 1) := by decide +kernel
theorem dX2_wearMore_0 : decode cX2_wearMore 0 = .ok (.aload_n 0, 1) := by decide +kernel
theorem dX2_wearMore_1 : decode cX2_wearMore 1 = .ok (.getfield 27, 3) := by decide +kernel
theorem dX2_wearMore_4 : decode cX2_wearMore 4 = .ok (.iload_n 1, 1) := by decide +kernel
theorem dX2_wearMore_5 : decode cX2_wearMore 5 = .ok (.dup2, 1) := by decide +kernel
theorem dX2_wearMore_6 : decode cX2_wearMore 6 = .ok (.iaload, 1) := by decide +kernel
theorem dX2_wearMore_7 : decode cX2_wearMore 7 = .ok (.iload_n 2, 1) := by decide +kernel
theorem dX2_wearMore_8 : decode cX2_wearMore 8 = .ok (.iadd, 1) := by decide +kernel
theorem dX2_wearMore_9 : decode cX2_wearMore 9 = .ok (.iastore, 1) := by decide +kernel
theorem dX2_wearMore_10 : decode cX2_wearMore 10 = .ok (.aload_n 0, 1) := by decide +kernel
theorem dX2_wearMore_11 : decode cX2_wearMore 11 = .ok (.getfield 27, 3) := by decide +kernel
theorem dX2_wearMore_14 : decode cX2_wearMore 14 = .ok (.iload_n 1, 1) := by decide +kernel
theorem dX2_wearMore_15 : decode cX2_wearMore 15 = .ok (.iaload, 1) := by decide +kernel
theorem dX2_wearMore_16 : decode cX2_wearMore 16 = .ok (.bipush 9, 2) := by decide +kernel
theorem dX2_wearMore_18 : decode cX2_wearMore 18 = .ok (.if_icmp .le 19, 3) := by decide +kernel
theorem dX2_wearMore_21 : decode cX2_wearMore 21 = .ok (.aload_n 0, 1) := by decide +kernel
theorem dX2_wearMore_22 : decode cX2_wearMore 22 = .ok (.getfield 27, 3) := by decide +kernel
theorem dX2_wearMore_25 : decode cX2_wearMore 25 = .ok (.iload_n 1, 1) := by decide +kernel
theorem dX2_wearMore_26 : decode cX2_wearMore 26 = .ok (.bipush 9, 2) := by decide +kernel
theorem dX2_wearMore_28 : decode cX2_wearMore 28 = .ok (.iastore, 1) := by decide +kernel
theorem dX2_wearMore_29 : decode cX2_wearMore 29 = .ok (.aload_n 0, 1) := by decide +kernel
theorem dX2_wearMore_30 : decode cX2_wearMore 30 = .ok (.getfield 30, 3) := by decide +kernel
theorem dX2_wearMore_33 : decode cX2_wearMore 33 = .ok (.iload_n 1, 1) := by decide +kernel
theorem dX2_wearMore_34 : decode cX2_wearMore 34 = .ok (.bipush (-8), 2) := by decide +kernel
theorem dX2_wearMore_36 : decode cX2_wearMore 36 = .ok (.iastore, 1) := by decide +kernel
theorem dX2_wearMore_37 : decode cX2_wearMore 37 = .ok (.return_, 1) := by decide +kernel
set_option maxRecDepth 20000 in
theorem ggX2_mendLeast_X2_mayMend : GoodIn wsX2_mendLeast wsX2_mayMend := goodIn_r _ [6, 7, 8, 9, 10, 11, 5, 12, 13, 14, 15, 16, 17, 18, 19, 20, 21, 22, 23, 24, 31, 32, 33, 34, 35, 36, 37, 38, 39, 40] (by decide +kernel) (by decide +kernel)
set_option maxRecDepth 20000 in
theorem gX2_mendLeast_X2_mayMend : GoodIn wsX2_mendLeast (wsV RX2 63 RX2 yX2_mayMend wsX2_mayMend) := goodIn_app (goodIn_of _ (by decide +kernel)) ggX2_mendLeast_X2_mayMend
set_option maxRecDepth 20000 in
theorem ggX2_mendLeast_X2_mend : GoodIn wsX2_mendLeast wsX2_mend := goodIn_r _ [28, 7, 29, 30, 14, 15, 16, 17, 31, 32, 33, 34, 35, 36, 37, 38, 39, 40] (by decide +kernel) (by decide +kernel)
set_option maxRecDepth 20000 in
theorem gX2_mendLeast_X2_mend : GoodIn wsX2_mendLeast (wsV RX2 88 RX2 yX2_mend wsX2_mend) := goodIn_app (goodIn_of _ (by decide +kernel)) ggX2_mendLeast_X2_mend
theorem dX2_mendLeast_0 : decode cX2_mendLeast 0 = .ok (.iconst 0, 1) := by decide +kernel
theorem dX2_mendLeast_1 : decode cX2_mendLeast 1 = .ok (.istore_n 2, 1) := by decide +kernel
theorem dX2_mendLeast_2 : decode cX2_mendLeast 2 = .ok (.iload_n 2, 1) := by decide +kernel
theorem dX2_mendLeast_3 : decode cX2_mendLeast 3 = .ok (.aload_n 0, 1) := by decide +kernel
theorem dX2_mendLeast_4 : decode cX2_mendLeast 4 = .ok (.getfield 37, 3) := by decide +kernel
theorem dX2_mendLeast_7 : decode cX2_mendLeast 7 = .ok (.if_icmp .ge 25, 3) := by decide +kernel
theorem dX2_mendLeast_10 : decode cX2_mendLeast 10 = .ok (.aload_n 0, 1) := by decide +kernel
theorem dX2_mendLeast_11 : decode cX2_mendLeast 11 = .ok (.iload_n 1, 1) := by decide +kernel
theorem dX2_mendLeast_12 : decode cX2_mendLeast 12 = .ok (.iload_n 2, 1) := by decide +kernel
theorem dX2_mendLeast_13 : decode cX2_mendLeast 13 = .ok (.invokevirtual 63, 3) := by decide +kernel
theorem dX2_mendLeast_16 : decode cX2_mendLeast 16 = .ok (.ifCond .eq 10, 3) := by decide +kernel
theorem dX2_mendLeast_19 : decode cX2_mendLeast 19 = .ok (.aload_n 0, 1) := by decide +kernel
theorem dX2_mendLeast_20 : decode cX2_mendLeast 20 = .ok (.iload_n 1, 1) := by decide +kernel
theorem dX2_mendLeast_21 : decode cX2_mendLeast 21 = .ok (.iload_n 2, 1) := by decide +kernel
theorem dX2_mendLeast_22 : decode cX2_mendLeast 22 = .ok (.invokevirtual 88, 3) := by decide +kernel
theorem dX2_mendLeast_25 : decode cX2_mendLeast 25 = .ok (.return_, 1) := by decide +kernel
theorem dX2_mendLeast_26 : decode cX2_mendLeast 26 = .ok (.iinc 2 1, 3) := by decide +kernel
theorem dX2_mendLeast_29 : decode cX2_mendLeast 29 = .ok (.goto (-27), 3) := by decide +kernel
theorem dX2_mendLeast_32 : decode cX2_mendLeast 32 = .ok (.return_, 1) := by decide +kernel
set_option maxRecDepth 20000 in
theorem ggX2_breakLeastOf_X2_isWhole : GoodIn wsX2_breakLeastOf wsX2_isWhole := goodIn_r _ [8, 3, 9, 10, 11, 12, 13, 14, 15, 16, 17, 18] (by decide +kernel) (by decide +kernel)
set_option maxRecDepth 20000 in
theorem gX2_breakLeastOf_X2_isWhole : GoodIn wsX2_breakLeastOf (wsV RX2 78 RX2 yX2_isWhole wsX2_isWhole) := goodIn_app (goodIn_of _ (by decide +kernel)) ggX2_breakLeastOf_X2_isWhole
theorem dX2_breakLeastOf_0 : decode cX2_breakLeastOf 0 = .ok (.iconst 0, 1) := by decide +kernel
theorem dX2_breakLeastOf_1 : decode cX2_breakLeastOf 1 = .ok (.istore_n 3, 1) := by decide +kernel
theorem dX2_breakLeastOf_2 : decode cX2_breakLeastOf 2 = .ok (.iload_n 3, 1) := by decide +kernel
theorem dX2_breakLeastOf_3 : decode cX2_breakLeastOf 3 = .ok (.aload_n 0, 1) := by decide +kernel
theorem dX2_breakLeastOf_4 : decode cX2_breakLeastOf 4 = .ok (.getfield 37, 3) := by decide +kernel
theorem dX2_breakLeastOf_7 : decode cX2_breakLeastOf 7 = .ok (.if_icmp .ge 35, 3) := by decide +kernel
theorem dX2_breakLeastOf_10 : decode cX2_breakLeastOf 10 = .ok (.aload_n 0, 1) := by decide +kernel
theorem dX2_breakLeastOf_11 : decode cX2_breakLeastOf 11 = .ok (.getfield 24, 3) := by decide +kernel
theorem dX2_breakLeastOf_14 : decode cX2_breakLeastOf 14 = .ok (.iload_n 3, 1) := by decide +kernel
theorem dX2_breakLeastOf_15 : decode cX2_breakLeastOf 15 = .ok (.iaload, 1) := by decide +kernel
theorem dX2_breakLeastOf_16 : decode cX2_breakLeastOf 16 = .ok (.iload_n 1, 1) := by decide +kernel
theorem dX2_breakLeastOf_17 : decode cX2_breakLeastOf 17 = .ok (.if_icmp .ne 19, 3) := by decide +kernel
theorem dX2_breakLeastOf_20 : decode cX2_breakLeastOf 20 = .ok (.aload_n 0, 1) := by decide +kernel
theorem dX2_breakLeastOf_21 : decode cX2_breakLeastOf 21 = .ok (.iload_n 3, 1) := by decide +kernel
theorem dX2_breakLeastOf_22 : decode cX2_breakLeastOf 22 = .ok (.invokevirtual 78, 3) := by decide +kernel
theorem dX2_breakLeastOf_25 : decode cX2_breakLeastOf 25 = .ok (.ifCond .eq 11, 3) := by decide +kernel
theorem dX2_breakLeastOf_28 : decode cX2_breakLeastOf 28 = .ok (.aload_n 0, 1) := by decide +kernel
theorem dX2_breakLeastOf_29 : decode cX2_breakLeastOf 29 = .ok (.getfield 30, 3) := by decide +kernel
theorem dX2_breakLeastOf_32 : decode cX2_breakLeastOf 32 = .ok (.iload_n 3, 1) := by decide +kernel
theorem dX2_breakLeastOf_33 : decode cX2_breakLeastOf 33 = .ok (.iload_n 2, 1) := by decide +kernel
theorem dX2_breakLeastOf_34 : decode cX2_breakLeastOf 34 = .ok (.iastore, 1) := by decide +kernel
theorem dX2_breakLeastOf_35 : decode cX2_breakLeastOf 35 = .ok (.return_, 1) := by decide +kernel
theorem dX2_breakLeastOf_36 : decode cX2_breakLeastOf 36 = .ok (.iinc 3 1, 3) := by decide +kernel
theorem dX2_breakLeastOf_39 : decode cX2_breakLeastOf 39 = .ok (.goto (-37), 3) := by decide +kernel
theorem dX2_breakLeastOf_42 : decode cX2_breakLeastOf 42 = .ok (.return_, 1) := by decide +kernel
set_option maxRecDepth 20000 in
theorem ggX2_breakerOfLeast_X2_isByAnother : GoodIn wsX2_breakerOfLeast wsX2_isByAnother := goodIn_r _ [8, 3, 2, 9, 10, 11, 12, 13, 14, 15, 16, 17, 18] (by decide +kernel) (by decide +kernel)
set_option maxRecDepth 20000 in
theorem gX2_breakerOfLeast_X2_isByAnother : GoodIn wsX2_breakerOfLeast (wsV RX2 91 RX2 yX2_isByAnother wsX2_isByAnother) := goodIn_app (goodIn_of _ (by decide +kernel)) ggX2_breakerOfLeast_X2_isByAnother
theorem dX2_breakerOfLeast_0 : decode cX2_breakerOfLeast 0 = .ok (.iconst 0, 1) := by decide +kernel
theorem dX2_breakerOfLeast_1 : decode cX2_breakerOfLeast 1 = .ok (.istore_n 2, 1) := by decide +kernel
theorem dX2_breakerOfLeast_2 : decode cX2_breakerOfLeast 2 = .ok (.iload_n 2, 1) := by decide +kernel
theorem dX2_breakerOfLeast_3 : decode cX2_breakerOfLeast 3 = .ok (.aload_n 0, 1) := by decide +kernel
theorem dX2_breakerOfLeast_4 : decode cX2_breakerOfLeast 4 = .ok (.getfield 37, 3) := by decide +kernel
theorem dX2_breakerOfLeast_7 : decode cX2_breakerOfLeast 7 = .ok (.if_icmp .ge 34, 3) := by decide +kernel
theorem dX2_breakerOfLeast_10 : decode cX2_breakerOfLeast 10 = .ok (.aload_n 0, 1) := by decide +kernel
theorem dX2_breakerOfLeast_11 : decode cX2_breakerOfLeast 11 = .ok (.getfield 24, 3) := by decide +kernel
theorem dX2_breakerOfLeast_14 : decode cX2_breakerOfLeast 14 = .ok (.iload_n 2, 1) := by decide +kernel
theorem dX2_breakerOfLeast_15 : decode cX2_breakerOfLeast 15 = .ok (.iaload, 1) := by decide +kernel
theorem dX2_breakerOfLeast_16 : decode cX2_breakerOfLeast 16 = .ok (.iload_n 1, 1) := by decide +kernel
theorem dX2_breakerOfLeast_17 : decode cX2_breakerOfLeast 17 = .ok (.if_icmp .ne 18, 3) := by decide +kernel
theorem dX2_breakerOfLeast_20 : decode cX2_breakerOfLeast 20 = .ok (.aload_n 0, 1) := by decide +kernel
theorem dX2_breakerOfLeast_21 : decode cX2_breakerOfLeast 21 = .ok (.iload_n 2, 1) := by decide +kernel
theorem dX2_breakerOfLeast_22 : decode cX2_breakerOfLeast 22 = .ok (.invokevirtual 91, 3) := by decide +kernel
theorem dX2_breakerOfLeast_25 : decode cX2_breakerOfLeast 25 = .ok (.ifCond .eq 10, 3) := by decide +kernel
theorem dX2_breakerOfLeast_28 : decode cX2_breakerOfLeast 28 = .ok (.aload_n 0, 1) := by decide +kernel
theorem dX2_breakerOfLeast_29 : decode cX2_breakerOfLeast 29 = .ok (.getfield 30, 3) := by decide +kernel
theorem dX2_breakerOfLeast_32 : decode cX2_breakerOfLeast 32 = .ok (.iload_n 2, 1) := by decide +kernel
theorem dX2_breakerOfLeast_33 : decode cX2_breakerOfLeast 33 = .ok (.iaload, 1) := by decide +kernel
theorem dX2_breakerOfLeast_34 : decode cX2_breakerOfLeast 34 = .ok (.ireturn, 1) := by decide +kernel
theorem dX2_breakerOfLeast_35 : decode cX2_breakerOfLeast 35 = .ok (.iinc 2 1, 3) := by decide +kernel
theorem dX2_breakerOfLeast_38 : decode cX2_breakerOfLeast 38 = .ok (.goto (-36), 3) := by decide +kernel
theorem dX2_breakerOfLeast_41 : decode cX2_breakerOfLeast 41 = .ok (.bipush (-9), 2) := by decide +kernel
theorem dX2_breakerOfLeast_43 : decode cX2_breakerOfLeast 43 = .ok (.ireturn, 1) := by decide +kernel
theorem dX2_hasBrokenOf_0 : decode cX2_hasBrokenOf 0 = .ok (.iconst 0, 1) := by decide +kernel
theorem dX2_hasBrokenOf_1 : decode cX2_hasBrokenOf 1 = .ok (.istore_n 3, 1) := by decide +kernel
theorem dX2_hasBrokenOf_2 : decode cX2_hasBrokenOf 2 = .ok (.iload_n 3, 1) := by decide +kernel
theorem dX2_hasBrokenOf_3 : decode cX2_hasBrokenOf 3 = .ok (.aload_n 0, 1) := by decide +kernel
theorem dX2_hasBrokenOf_4 : decode cX2_hasBrokenOf 4 = .ok (.getfield 37, 3) := by decide +kernel
theorem dX2_hasBrokenOf_7 : decode cX2_hasBrokenOf 7 = .ok (.if_icmp .ge 31, 3) := by decide +kernel
theorem dX2_hasBrokenOf_10 : decode cX2_hasBrokenOf 10 = .ok (.aload_n 0, 1) := by decide +kernel
theorem dX2_hasBrokenOf_11 : decode cX2_hasBrokenOf 11 = .ok (.getfield 30, 3) := by decide +kernel
theorem dX2_hasBrokenOf_14 : decode cX2_hasBrokenOf 14 = .ok (.iload_n 3, 1) := by decide +kernel
theorem dX2_hasBrokenOf_15 : decode cX2_hasBrokenOf 15 = .ok (.iaload, 1) := by decide +kernel
theorem dX2_hasBrokenOf_16 : decode cX2_hasBrokenOf 16 = .ok (.iload_n 1, 1) := by decide +kernel
theorem dX2_hasBrokenOf_17 : decode cX2_hasBrokenOf 17 = .ok (.if_icmp .ne 15, 3) := by decide +kernel
theorem dX2_hasBrokenOf_20 : decode cX2_hasBrokenOf 20 = .ok (.aload_n 0, 1) := by decide +kernel
theorem dX2_hasBrokenOf_21 : decode cX2_hasBrokenOf 21 = .ok (.getfield 24, 3) := by decide +kernel
theorem dX2_hasBrokenOf_24 : decode cX2_hasBrokenOf 24 = .ok (.iload_n 3, 1) := by decide +kernel
theorem dX2_hasBrokenOf_25 : decode cX2_hasBrokenOf 25 = .ok (.iaload, 1) := by decide +kernel
theorem dX2_hasBrokenOf_26 : decode cX2_hasBrokenOf 26 = .ok (.iload_n 2, 1) := by decide +kernel
theorem dX2_hasBrokenOf_27 : decode cX2_hasBrokenOf 27 = .ok (.if_icmp .ne 5, 3) := by decide +kernel
theorem dX2_hasBrokenOf_30 : decode cX2_hasBrokenOf 30 = .ok (.iconst 1, 1) := by decide +kernel
theorem dX2_hasBrokenOf_31 : decode cX2_hasBrokenOf 31 = .ok (.ireturn, 1) := by decide +kernel
theorem dX2_hasBrokenOf_32 : decode cX2_hasBrokenOf 32 = .ok (.iinc 3 1, 3) := by decide +kernel
theorem dX2_hasBrokenOf_35 : decode cX2_hasBrokenOf 35 = .ok (.goto (-33), 3) := by decide +kernel
theorem dX2_hasBrokenOf_38 : decode cX2_hasBrokenOf 38 = .ok (.iconst 0, 1) := by decide +kernel
theorem dX2_hasBrokenOf_39 : decode cX2_hasBrokenOf 39 = .ok (.ireturn, 1) := by decide +kernel
theorem dX2_ownedBy_0 : decode cX2_ownedBy 0 = .ok (.iconst 0, 1) := by decide +kernel
theorem dX2_ownedBy_1 : decode cX2_ownedBy 1 = .ok (.istore_n 2, 1) := by decide +kernel
theorem dX2_ownedBy_2 : decode cX2_ownedBy 2 = .ok (.iconst 0, 1) := by decide +kernel
theorem dX2_ownedBy_3 : decode cX2_ownedBy 3 = .ok (.istore_n 3, 1) := by decide +kernel
theorem dX2_ownedBy_4 : decode cX2_ownedBy 4 = .ok (.iload_n 3, 1) := by decide +kernel
theorem dX2_ownedBy_5 : decode cX2_ownedBy 5 = .ok (.aload_n 0, 1) := by decide +kernel
theorem dX2_ownedBy_6 : decode cX2_ownedBy 6 = .ok (.getfield 37, 3) := by decide +kernel
theorem dX2_ownedBy_9 : decode cX2_ownedBy 9 = .ok (.if_icmp .ge 27, 3) := by decide +kernel
theorem dX2_ownedBy_12 : decode cX2_ownedBy 12 = .ok (.iload_n 2, 1) := by decide +kernel
theorem dX2_ownedBy_13 : decode cX2_ownedBy 13 = .ok (.aload_n 0, 1) := by decide +kernel
theorem dX2_ownedBy_14 : decode cX2_ownedBy 14 = .ok (.getfield 24, 3) := by decide +kernel
theorem dX2_ownedBy_17 : decode cX2_ownedBy 17 = .ok (.iload_n 3, 1) := by decide +kernel
theorem dX2_ownedBy_18 : decode cX2_ownedBy 18 = .ok (.iaload, 1) := by decide +kernel
theorem dX2_ownedBy_19 : decode cX2_ownedBy 19 = .ok (.iload_n 1, 1) := by decide +kernel
theorem dX2_ownedBy_20 : decode cX2_ownedBy 20 = .ok (.if_icmp .ne 7, 3) := by decide +kernel
theorem dX2_ownedBy_23 : decode cX2_ownedBy 23 = .ok (.iconst 1, 1) := by decide +kernel
theorem dX2_ownedBy_24 : decode cX2_ownedBy 24 = .ok (.goto 4, 3) := by decide +kernel
theorem dX2_ownedBy_27 : decode cX2_ownedBy 27 = .ok (.iconst 0, 1) := by decide +kernel
theorem dX2_ownedBy_28 : decode cX2_ownedBy 28 = .ok (.iadd, 1) := by decide +kernel
theorem dX2_ownedBy_29 : decode cX2_ownedBy 29 = .ok (.istore_n 2, 1) := by decide +kernel
theorem dX2_ownedBy_30 : decode cX2_ownedBy 30 = .ok (.iinc 3 1, 3) := by decide +kernel
theorem dX2_ownedBy_33 : decode cX2_ownedBy 33 = .ok (.goto (-29), 3) := by decide +kernel
theorem dX2_ownedBy_36 : decode cX2_ownedBy 36 = .ok (.iload_n 2, 1) := by decide +kernel
theorem dX2_ownedBy_37 : decode cX2_ownedBy 37 = .ok (.ireturn, 1) := by decide +kernel
theorem dX2_brokenBy_0 : decode cX2_brokenBy 0 = .ok (.iconst 0, 1) := by decide +kernel
theorem dX2_brokenBy_1 : decode cX2_brokenBy 1 = .ok (.istore_n 2, 1) := by decide +kernel
theorem dX2_brokenBy_2 : decode cX2_brokenBy 2 = .ok (.iconst 0, 1) := by decide +kernel
theorem dX2_brokenBy_3 : decode cX2_brokenBy 3 = .ok (.istore_n 3, 1) := by decide +kernel
theorem dX2_brokenBy_4 : decode cX2_brokenBy 4 = .ok (.iload_n 3, 1) := by decide +kernel
theorem dX2_brokenBy_5 : decode cX2_brokenBy 5 = .ok (.aload_n 0, 1) := by decide +kernel
theorem dX2_brokenBy_6 : decode cX2_brokenBy 6 = .ok (.getfield 37, 3) := by decide +kernel
theorem dX2_brokenBy_9 : decode cX2_brokenBy 9 = .ok (.if_icmp .ge 27, 3) := by decide +kernel
theorem dX2_brokenBy_12 : decode cX2_brokenBy 12 = .ok (.iload_n 2, 1) := by decide +kernel
theorem dX2_brokenBy_13 : decode cX2_brokenBy 13 = .ok (.aload_n 0, 1) := by decide +kernel
theorem dX2_brokenBy_14 : decode cX2_brokenBy 14 = .ok (.getfield 30, 3) := by decide +kernel
theorem dX2_brokenBy_17 : decode cX2_brokenBy 17 = .ok (.iload_n 3, 1) := by decide +kernel
theorem dX2_brokenBy_18 : decode cX2_brokenBy 18 = .ok (.iaload, 1) := by decide +kernel
theorem dX2_brokenBy_19 : decode cX2_brokenBy 19 = .ok (.iload_n 1, 1) := by decide +kernel
theorem dX2_brokenBy_20 : decode cX2_brokenBy 20 = .ok (.if_icmp .ne 7, 3) := by decide +kernel
theorem dX2_brokenBy_23 : decode cX2_brokenBy 23 = .ok (.iconst 1, 1) := by decide +kernel
theorem dX2_brokenBy_24 : decode cX2_brokenBy 24 = .ok (.goto 4, 3) := by decide +kernel
theorem dX2_brokenBy_27 : decode cX2_brokenBy 27 = .ok (.iconst 0, 1) := by decide +kernel
theorem dX2_brokenBy_28 : decode cX2_brokenBy 28 = .ok (.iadd, 1) := by decide +kernel
theorem dX2_brokenBy_29 : decode cX2_brokenBy 29 = .ok (.istore_n 2, 1) := by decide +kernel
theorem dX2_brokenBy_30 : decode cX2_brokenBy 30 = .ok (.iinc 3 1, 3) := by decide +kernel
theorem dX2_brokenBy_33 : decode cX2_brokenBy 33 = .ok (.goto (-29), 3) := by decide +kernel
theorem dX2_brokenBy_36 : decode cX2_brokenBy 36 = .ok (.iload_n 2, 1) := by decide +kernel
theorem dX2_brokenBy_37 : decode cX2_brokenBy 37 = .ok (.ireturn, 1) := by decide +kernel
set_option maxRecDepth 20000 in
theorem ggX2_wholeOf_X2_isWhole : GoodIn wsX2_wholeOf wsX2_isWhole := goodIn_r _ [7, 8, 9, 10, 11, 12, 13, 14, 15, 16, 17, 18] (by decide +kernel) (by decide +kernel)
set_option maxRecDepth 20000 in
theorem gX2_wholeOf_X2_isWhole : GoodIn wsX2_wholeOf (wsV RX2 78 RX2 yX2_isWhole wsX2_isWhole) := goodIn_app (goodIn_of _ (by decide +kernel)) ggX2_wholeOf_X2_isWhole
theorem dX2_wholeOf_0 : decode cX2_wholeOf 0 = .ok (.iconst 0, 1) := by decide +kernel
theorem dX2_wholeOf_1 : decode cX2_wholeOf 1 = .ok (.istore_n 2, 1) := by decide +kernel
theorem dX2_wholeOf_2 : decode cX2_wholeOf 2 = .ok (.iconst 0, 1) := by decide +kernel
theorem dX2_wholeOf_3 : decode cX2_wholeOf 3 = .ok (.istore_n 3, 1) := by decide +kernel
theorem dX2_wholeOf_4 : decode cX2_wholeOf 4 = .ok (.iload_n 3, 1) := by decide +kernel
theorem dX2_wholeOf_5 : decode cX2_wholeOf 5 = .ok (.aload_n 0, 1) := by decide +kernel
theorem dX2_wholeOf_6 : decode cX2_wholeOf 6 = .ok (.getfield 37, 3) := by decide +kernel
theorem dX2_wholeOf_9 : decode cX2_wholeOf 9 = .ok (.if_icmp .ge 35, 3) := by decide +kernel
theorem dX2_wholeOf_12 : decode cX2_wholeOf 12 = .ok (.iload_n 2, 1) := by decide +kernel
theorem dX2_wholeOf_13 : decode cX2_wholeOf 13 = .ok (.aload_n 0, 1) := by decide +kernel
theorem dX2_wholeOf_14 : decode cX2_wholeOf 14 = .ok (.getfield 24, 3) := by decide +kernel
theorem dX2_wholeOf_17 : decode cX2_wholeOf 17 = .ok (.iload_n 3, 1) := by decide +kernel
theorem dX2_wholeOf_18 : decode cX2_wholeOf 18 = .ok (.iaload, 1) := by decide +kernel
theorem dX2_wholeOf_19 : decode cX2_wholeOf 19 = .ok (.iload_n 1, 1) := by decide +kernel
theorem dX2_wholeOf_20 : decode cX2_wholeOf 20 = .ok (.if_icmp .ne 15, 3) := by decide +kernel
theorem dX2_wholeOf_23 : decode cX2_wholeOf 23 = .ok (.aload_n 0, 1) := by decide +kernel
theorem dX2_wholeOf_24 : decode cX2_wholeOf 24 = .ok (.iload_n 3, 1) := by decide +kernel
theorem dX2_wholeOf_25 : decode cX2_wholeOf 25 = .ok (.invokevirtual 78, 3) := by decide +kernel
theorem dX2_wholeOf_28 : decode cX2_wholeOf 28 = .ok (.ifCond .eq 7, 3) := by decide +kernel
theorem dX2_wholeOf_31 : decode cX2_wholeOf 31 = .ok (.iconst 1, 1) := by decide +kernel
theorem dX2_wholeOf_32 : decode cX2_wholeOf 32 = .ok (.goto 4, 3) := by decide +kernel
theorem dX2_wholeOf_35 : decode cX2_wholeOf 35 = .ok (.iconst 0, 1) := by decide +kernel
theorem dX2_wholeOf_36 : decode cX2_wholeOf 36 = .ok (.iadd, 1) := by decide +kernel
theorem dX2_wholeOf_37 : decode cX2_wholeOf 37 = .ok (.istore_n 2, 1) := by decide +kernel
theorem dX2_wholeOf_38 : decode cX2_wholeOf 38 = .ok (.iinc 3 1, 3) := by decide +kernel
theorem dX2_wholeOf_41 : decode cX2_wholeOf 41 = .ok (.goto (-37), 3) := by decide +kernel
theorem dX2_wholeOf_44 : decode cX2_wholeOf 44 = .ok (.iload_n 2, 1) := by decide +kernel
theorem dX2_wholeOf_45 : decode cX2_wholeOf 45 = .ok (.ireturn, 1) := by decide +kernel
set_option maxRecDepth 20000 in
theorem ggX2_riches_X2_isWhole : GoodIn wsX2_riches wsX2_isWhole := goodIn_r _ [8, 9, 10, 11, 12, 13, 14, 15, 16, 17, 18, 19] (by decide +kernel) (by decide +kernel)
set_option maxRecDepth 20000 in
theorem gX2_riches_X2_isWhole : GoodIn wsX2_riches (wsV RX2 78 RX2 yX2_isWhole wsX2_isWhole) := goodIn_app (goodIn_of _ (by decide +kernel)) ggX2_riches_X2_isWhole
theorem dX2_riches_0 : decode cX2_riches 0 = .ok (.iconst 0, 1) := by decide +kernel
theorem dX2_riches_1 : decode cX2_riches 1 = .ok (.istore_n 2, 1) := by decide +kernel
theorem dX2_riches_2 : decode cX2_riches 2 = .ok (.iconst 0, 1) := by decide +kernel
theorem dX2_riches_3 : decode cX2_riches 3 = .ok (.istore_n 3, 1) := by decide +kernel
theorem dX2_riches_4 : decode cX2_riches 4 = .ok (.iload_n 3, 1) := by decide +kernel
theorem dX2_riches_5 : decode cX2_riches 5 = .ok (.aload_n 0, 1) := by decide +kernel
theorem dX2_riches_6 : decode cX2_riches 6 = .ok (.getfield 37, 3) := by decide +kernel
theorem dX2_riches_9 : decode cX2_riches 9 = .ok (.if_icmp .ge 40, 3) := by decide +kernel
theorem dX2_riches_12 : decode cX2_riches 12 = .ok (.iload_n 2, 1) := by decide +kernel
theorem dX2_riches_13 : decode cX2_riches 13 = .ok (.aload_n 0, 1) := by decide +kernel
theorem dX2_riches_14 : decode cX2_riches 14 = .ok (.getfield 24, 3) := by decide +kernel
theorem dX2_riches_17 : decode cX2_riches 17 = .ok (.iload_n 3, 1) := by decide +kernel
theorem dX2_riches_18 : decode cX2_riches 18 = .ok (.iaload, 1) := by decide +kernel
theorem dX2_riches_19 : decode cX2_riches 19 = .ok (.iload_n 1, 1) := by decide +kernel
theorem dX2_riches_20 : decode cX2_riches 20 = .ok (.if_icmp .ne 20, 3) := by decide +kernel
theorem dX2_riches_23 : decode cX2_riches 23 = .ok (.aload_n 0, 1) := by decide +kernel
theorem dX2_riches_24 : decode cX2_riches 24 = .ok (.iload_n 3, 1) := by decide +kernel
theorem dX2_riches_25 : decode cX2_riches 25 = .ok (.invokevirtual 78, 3) := by decide +kernel
theorem dX2_riches_28 : decode cX2_riches 28 = .ok (.ifCond .eq 12, 3) := by decide +kernel
theorem dX2_riches_31 : decode cX2_riches 31 = .ok (.aload_n 0, 1) := by decide +kernel
theorem dX2_riches_32 : decode cX2_riches 32 = .ok (.getfield 21, 3) := by decide +kernel
theorem dX2_riches_35 : decode cX2_riches 35 = .ok (.iload_n 3, 1) := by decide +kernel
theorem dX2_riches_36 : decode cX2_riches 36 = .ok (.iaload, 1) := by decide +kernel
theorem dX2_riches_37 : decode cX2_riches 37 = .ok (.goto 4, 3) := by decide +kernel
theorem dX2_riches_40 : decode cX2_riches 40 = .ok (.iconst 0, 1) := by decide +kernel
theorem dX2_riches_41 : decode cX2_riches 41 = .ok (.iadd, 1) := by decide +kernel
theorem dX2_riches_42 : decode cX2_riches 42 = .ok (.istore_n 2, 1) := by decide +kernel
theorem dX2_riches_43 : decode cX2_riches 43 = .ok (.iinc 3 1, 3) := by decide +kernel
theorem dX2_riches_46 : decode cX2_riches 46 = .ok (.goto (-42), 3) := by decide +kernel
theorem dX2_riches_49 : decode cX2_riches 49 = .ok (.iload_n 2, 1) := by decide +kernel
theorem dX2_riches_50 : decode cX2_riches 50 = .ok (.ireturn, 1) := by decide +kernel
set_option maxRecDepth 20000 in
theorem ggX2_wholeBits_X2_isWhole : GoodIn wsX2_wholeBits wsX2_isWhole := goodIn_r _ [6, 7, 8, 9, 10, 11, 12, 13, 14, 15, 16, 17] (by decide +kernel) (by decide +kernel)
set_option maxRecDepth 20000 in
theorem gX2_wholeBits_X2_isWhole : GoodIn wsX2_wholeBits (wsV RX2 78 RX2 yX2_isWhole wsX2_isWhole) := goodIn_app (goodIn_of _ (by decide +kernel)) ggX2_wholeBits_X2_isWhole
theorem dX2_wholeBits_0 : decode cX2_wholeBits 0 = .ok (.iconst 0, 1) := by decide +kernel
theorem dX2_wholeBits_1 : decode cX2_wholeBits 1 = .ok (.istore_n 1, 1) := by decide +kernel
theorem dX2_wholeBits_2 : decode cX2_wholeBits 2 = .ok (.iconst 0, 1) := by decide +kernel
theorem dX2_wholeBits_3 : decode cX2_wholeBits 3 = .ok (.istore_n 2, 1) := by decide +kernel
theorem dX2_wholeBits_4 : decode cX2_wholeBits 4 = .ok (.iload_n 2, 1) := by decide +kernel
theorem dX2_wholeBits_5 : decode cX2_wholeBits 5 = .ok (.aload_n 0, 1) := by decide +kernel
theorem dX2_wholeBits_6 : decode cX2_wholeBits 6 = .ok (.getfield 37, 3) := by decide +kernel
theorem dX2_wholeBits_9 : decode cX2_wholeBits 9 = .ok (.if_icmp .ge 27, 3) := by decide +kernel
theorem dX2_wholeBits_12 : decode cX2_wholeBits 12 = .ok (.iload_n 1, 1) := by decide +kernel
theorem dX2_wholeBits_13 : decode cX2_wholeBits 13 = .ok (.aload_n 0, 1) := by decide +kernel
theorem dX2_wholeBits_14 : decode cX2_wholeBits 14 = .ok (.iload_n 2, 1) := by decide +kernel
theorem dX2_wholeBits_15 : decode cX2_wholeBits 15 = .ok (.invokevirtual 78, 3) := by decide +kernel
theorem dX2_wholeBits_18 : decode cX2_wholeBits 18 = .ok (.ifCond .eq 9, 3) := by decide +kernel
theorem dX2_wholeBits_21 : decode cX2_wholeBits 21 = .ok (.iconst 1, 1) := by decide +kernel
theorem dX2_wholeBits_22 : decode cX2_wholeBits 22 = .ok (.iload_n 2, 1) := by decide +kernel
theorem dX2_wholeBits_23 : decode cX2_wholeBits 23 = .ok (.ishl, 1) := by decide +kernel
theorem dX2_wholeBits_24 : decode cX2_wholeBits 24 = .ok (.goto 4, 3) := by decide +kernel
theorem dX2_wholeBits_27 : decode cX2_wholeBits 27 = .ok (.iconst 0, 1) := by decide +kernel
theorem dX2_wholeBits_28 : decode cX2_wholeBits 28 = .ok (.ior, 1) := by decide +kernel
theorem dX2_wholeBits_29 : decode cX2_wholeBits 29 = .ok (.istore_n 1, 1) := by decide +kernel
theorem dX2_wholeBits_30 : decode cX2_wholeBits 30 = .ok (.iinc 2 1, 3) := by decide +kernel
theorem dX2_wholeBits_33 : decode cX2_wholeBits 33 = .ok (.goto (-29), 3) := by decide +kernel
theorem dX2_wholeBits_36 : decode cX2_wholeBits 36 = .ok (.iload_n 1, 1) := by decide +kernel
theorem dX2_wholeBits_37 : decode cX2_wholeBits 37 = .ok (.ireturn, 1) := by decide +kernel
set_option maxRecDepth 20000 in
theorem ggX2_wholeCount_X2_wholeBits : GoodIn wsX2_wholeCount wsX2_wholeBits := goodIn_r _ [5, 6, 7, 8, 9, 4, 10, 11, 19, 20, 21, 22, 23, 24, 25, 26, 27, 28] (by decide +kernel) (by decide +kernel)
set_option maxRecDepth 20000 in
theorem gX2_wholeCount_X2_wholeBits : GoodIn wsX2_wholeCount (wsV RX2 94 RX2 yX2_wholeBits wsX2_wholeBits) := goodIn_app (goodIn_of _ (by decide +kernel)) ggX2_wholeCount_X2_wholeBits
set_option maxRecDepth 20000 in
theorem ggX2_wholeCount_J6_bitCount_0f7a4 : GoodIn wsX2_wholeCount wsJ6_bitCount_0f7a4 := goodIn_r _ [15, 16, 17, 18] (by decide +kernel) (by decide +kernel)
set_option maxRecDepth 20000 in
theorem gX2_wholeCount_J6_bitCount_0f7a4 : GoodIn wsX2_wholeCount (va_wsS RX2 98 yJ6_bitCount_0f7a4 wsJ6_bitCount_0f7a4) := goodIn_app (goodIn_of _ (by decide +kernel)) ggX2_wholeCount_J6_bitCount_0f7a4
theorem dX2_wholeCount_0 : decode cX2_wholeCount 0 = .ok (.aload_n 0, 1) := by decide +kernel
theorem dX2_wholeCount_1 : decode cX2_wholeCount 1 = .ok (.invokevirtual 94, 3) := by decide +kernel
theorem dX2_wholeCount_4 : decode cX2_wholeCount 4 = .ok (.invokestatic 98, 3) := by decide +kernel
theorem dX2_wholeCount_7 : decode cX2_wholeCount 7 = .ok (.ireturn, 1) := by decide +kernel
set_option maxRecDepth 20000 in
theorem ggX2_mournedBits_X2_isMourned : GoodIn wsX2_mournedBits wsX2_isMourned := goodIn_r _ [6, 7, 8, 9, 10, 11, 12, 13, 14, 15, 16, 17] (by decide +kernel) (by decide +kernel)
set_option maxRecDepth 20000 in
theorem gX2_mournedBits_X2_isMourned : GoodIn wsX2_mournedBits (wsV RX2 103 RX2 yX2_isMourned wsX2_isMourned) := goodIn_app (goodIn_of _ (by decide +kernel)) ggX2_mournedBits_X2_isMourned
theorem dX2_mournedBits_0 : decode cX2_mournedBits 0 = .ok (.iconst 0, 1) := by decide +kernel
theorem dX2_mournedBits_1 : decode cX2_mournedBits 1 = .ok (.istore_n 1, 1) := by decide +kernel
theorem dX2_mournedBits_2 : decode cX2_mournedBits 2 = .ok (.iconst 0, 1) := by decide +kernel
theorem dX2_mournedBits_3 : decode cX2_mournedBits 3 = .ok (.istore_n 2, 1) := by decide +kernel
theorem dX2_mournedBits_4 : decode cX2_mournedBits 4 = .ok (.iload_n 2, 1) := by decide +kernel
theorem dX2_mournedBits_5 : decode cX2_mournedBits 5 = .ok (.aload_n 0, 1) := by decide +kernel
theorem dX2_mournedBits_6 : decode cX2_mournedBits 6 = .ok (.getfield 37, 3) := by decide +kernel
theorem dX2_mournedBits_9 : decode cX2_mournedBits 9 = .ok (.if_icmp .ge 27, 3) := by decide +kernel
theorem dX2_mournedBits_12 : decode cX2_mournedBits 12 = .ok (.iload_n 1, 1) := by decide +kernel
theorem dX2_mournedBits_13 : decode cX2_mournedBits 13 = .ok (.aload_n 0, 1) := by decide +kernel
theorem dX2_mournedBits_14 : decode cX2_mournedBits 14 = .ok (.iload_n 2, 1) := by decide +kernel
theorem dX2_mournedBits_15 : decode cX2_mournedBits 15 = .ok (.invokevirtual 103, 3) := by decide +kernel
theorem dX2_mournedBits_18 : decode cX2_mournedBits 18 = .ok (.ifCond .eq 9, 3) := by decide +kernel
theorem dX2_mournedBits_21 : decode cX2_mournedBits 21 = .ok (.iconst 1, 1) := by decide +kernel
theorem dX2_mournedBits_22 : decode cX2_mournedBits 22 = .ok (.iload_n 2, 1) := by decide +kernel
theorem dX2_mournedBits_23 : decode cX2_mournedBits 23 = .ok (.ishl, 1) := by decide +kernel
theorem dX2_mournedBits_24 : decode cX2_mournedBits 24 = .ok (.goto 4, 3) := by decide +kernel
theorem dX2_mournedBits_27 : decode cX2_mournedBits 27 = .ok (.iconst 0, 1) := by decide +kernel
theorem dX2_mournedBits_28 : decode cX2_mournedBits 28 = .ok (.ior, 1) := by decide +kernel
theorem dX2_mournedBits_29 : decode cX2_mournedBits 29 = .ok (.istore_n 1, 1) := by decide +kernel
theorem dX2_mournedBits_30 : decode cX2_mournedBits 30 = .ok (.iinc 2 1, 3) := by decide +kernel
theorem dX2_mournedBits_33 : decode cX2_mournedBits 33 = .ok (.goto (-29), 3) := by decide +kernel
theorem dX2_mournedBits_36 : decode cX2_mournedBits 36 = .ok (.iload_n 1, 1) := by decide +kernel
theorem dX2_mournedBits_37 : decode cX2_mournedBits 37 = .ok (.ireturn, 1) := by decide +kernel
set_option maxRecDepth 20000 in
theorem ggX2_wearOfWhole_X2_isWhole : GoodIn wsX2_wearOfWhole wsX2_isWhole := goodIn_r _ [7, 8, 9, 10, 11, 12, 13, 14, 15, 16, 17, 18] (by decide +kernel) (by decide +kernel)
set_option maxRecDepth 20000 in
theorem gX2_wearOfWhole_X2_isWhole : GoodIn wsX2_wearOfWhole (wsV RX2 78 RX2 yX2_isWhole wsX2_isWhole) := goodIn_app (goodIn_of _ (by decide +kernel)) ggX2_wearOfWhole_X2_isWhole
theorem dX2_wearOfWhole_0 : decode cX2_wearOfWhole 0 = .ok (.iconst 0, 1) := by decide +kernel
theorem dX2_wearOfWhole_1 : decode cX2_wearOfWhole 1 = .ok (.istore_n 1, 1) := by decide +kernel
theorem dX2_wearOfWhole_2 : decode cX2_wearOfWhole 2 = .ok (.iconst 0, 1) := by decide +kernel
theorem dX2_wearOfWhole_3 : decode cX2_wearOfWhole 3 = .ok (.istore_n 2, 1) := by decide +kernel
theorem dX2_wearOfWhole_4 : decode cX2_wearOfWhole 4 = .ok (.iload_n 2, 1) := by decide +kernel
theorem dX2_wearOfWhole_5 : decode cX2_wearOfWhole 5 = .ok (.aload_n 0, 1) := by decide +kernel
theorem dX2_wearOfWhole_6 : decode cX2_wearOfWhole 6 = .ok (.getfield 37, 3) := by decide +kernel
theorem dX2_wearOfWhole_9 : decode cX2_wearOfWhole 9 = .ok (.if_icmp .ge 30, 3) := by decide +kernel
theorem dX2_wearOfWhole_12 : decode cX2_wearOfWhole 12 = .ok (.iload_n 1, 1) := by decide +kernel
theorem dX2_wearOfWhole_13 : decode cX2_wearOfWhole 13 = .ok (.aload_n 0, 1) := by decide +kernel
theorem dX2_wearOfWhole_14 : decode cX2_wearOfWhole 14 = .ok (.iload_n 2, 1) := by decide +kernel
theorem dX2_wearOfWhole_15 : decode cX2_wearOfWhole 15 = .ok (.invokevirtual 78, 3) := by decide +kernel
theorem dX2_wearOfWhole_18 : decode cX2_wearOfWhole 18 = .ok (.ifCond .eq 12, 3) := by decide +kernel
theorem dX2_wearOfWhole_21 : decode cX2_wearOfWhole 21 = .ok (.aload_n 0, 1) := by decide +kernel
theorem dX2_wearOfWhole_22 : decode cX2_wearOfWhole 22 = .ok (.getfield 27, 3) := by decide +kernel
theorem dX2_wearOfWhole_25 : decode cX2_wearOfWhole 25 = .ok (.iload_n 2, 1) := by decide +kernel
theorem dX2_wearOfWhole_26 : decode cX2_wearOfWhole 26 = .ok (.iaload, 1) := by decide +kernel
theorem dX2_wearOfWhole_27 : decode cX2_wearOfWhole 27 = .ok (.goto 4, 3) := by decide +kernel
theorem dX2_wearOfWhole_30 : decode cX2_wearOfWhole 30 = .ok (.iconst 0, 1) := by decide +kernel
theorem dX2_wearOfWhole_31 : decode cX2_wearOfWhole 31 = .ok (.iadd, 1) := by decide +kernel
theorem dX2_wearOfWhole_32 : decode cX2_wearOfWhole 32 = .ok (.istore_n 1, 1) := by decide +kernel
theorem dX2_wearOfWhole_33 : decode cX2_wearOfWhole 33 = .ok (.iinc 2 1, 3) := by decide +kernel
theorem dX2_wearOfWhole_36 : decode cX2_wearOfWhole 36 = .ok (.goto (-32), 3) := by decide +kernel
theorem dX2_wearOfWhole_39 : decode cX2_wearOfWhole 39 = .ok (.iload_n 1, 1) := by decide +kernel
theorem dX2_wearOfWhole_40 : decode cX2_wearOfWhole 40 = .ok (.ireturn, 1) := by decide +kernel
theorem dX2_wearOfAll_0 : decode cX2_wearOfAll 0 = .ok (.iconst 0, 1) := by decide +kernel
theorem dX2_wearOfAll_1 : decode cX2_wearOfAll 1 = .ok (.istore_n 1, 1) := by decide +kernel
theorem dX2_wearOfAll_2 : decode cX2_wearOfAll 2 = .ok (.iconst 0, 1) := by decide +kernel
theorem dX2_wearOfAll_3 : decode cX2_wearOfAll 3 = .ok (.istore_n 2, 1) := by decide +kernel
theorem dX2_wearOfAll_4 : decode cX2_wearOfAll 4 = .ok (.iload_n 2, 1) := by decide +kernel
theorem dX2_wearOfAll_5 : decode cX2_wearOfAll 5 = .ok (.aload_n 0, 1) := by decide +kernel
theorem dX2_wearOfAll_6 : decode cX2_wearOfAll 6 = .ok (.getfield 37, 3) := by decide +kernel
theorem dX2_wearOfAll_9 : decode cX2_wearOfAll 9 = .ok (.if_icmp .ge 18, 3) := by decide +kernel
theorem dX2_wearOfAll_12 : decode cX2_wearOfAll 12 = .ok (.iload_n 1, 1) := by decide +kernel
theorem dX2_wearOfAll_13 : decode cX2_wearOfAll 13 = .ok (.aload_n 0, 1) := by decide +kernel
theorem dX2_wearOfAll_14 : decode cX2_wearOfAll 14 = .ok (.getfield 27, 3) := by decide +kernel
theorem dX2_wearOfAll_17 : decode cX2_wearOfAll 17 = .ok (.iload_n 2, 1) := by decide +kernel
theorem dX2_wearOfAll_18 : decode cX2_wearOfAll 18 = .ok (.iaload, 1) := by decide +kernel
theorem dX2_wearOfAll_19 : decode cX2_wearOfAll 19 = .ok (.iadd, 1) := by decide +kernel
theorem dX2_wearOfAll_20 : decode cX2_wearOfAll 20 = .ok (.istore_n 1, 1) := by decide +kernel
theorem dX2_wearOfAll_21 : decode cX2_wearOfAll 21 = .ok (.iinc 2 1, 3) := by decide +kernel
theorem dX2_wearOfAll_24 : decode cX2_wearOfAll 24 = .ok (.goto (-20), 3) := by decide +kernel
theorem dX2_wearOfAll_27 : decode cX2_wearOfAll 27 = .ok (.iload_n 1, 1) := by decide +kernel
theorem dX2_wearOfAll_28 : decode cX2_wearOfAll 28 = .ok (.ireturn, 1) := by decide +kernel
theorem dX2_mendedByAll_0 : decode cX2_mendedByAll 0 = .ok (.iconst 0, 1) := by decide +kernel
theorem dX2_mendedByAll_1 : decode cX2_mendedByAll 1 = .ok (.istore_n 1, 1) := by decide +kernel
theorem dX2_mendedByAll_2 : decode cX2_mendedByAll 2 = .ok (.iconst 0, 1) := by decide +kernel
theorem dX2_mendedByAll_3 : decode cX2_mendedByAll 3 = .ok (.istore_n 2, 1) := by decide +kernel
theorem dX2_mendedByAll_4 : decode cX2_mendedByAll 4 = .ok (.iload_n 2, 1) := by decide +kernel
theorem dX2_mendedByAll_5 : decode cX2_mendedByAll 5 = .ok (.aload_n 0, 1) := by decide +kernel
theorem dX2_mendedByAll_6 : decode cX2_mendedByAll 6 = .ok (.getfield 33, 3) := by decide +kernel
theorem dX2_mendedByAll_9 : decode cX2_mendedByAll 9 = .ok (.if_icmp .ge 18, 3) := by decide +kernel
theorem dX2_mendedByAll_12 : decode cX2_mendedByAll 12 = .ok (.iload_n 1, 1) := by decide +kernel
theorem dX2_mendedByAll_13 : decode cX2_mendedByAll 13 = .ok (.aload_n 0, 1) := by decide +kernel
theorem dX2_mendedByAll_14 : decode cX2_mendedByAll 14 = .ok (.getfield 15, 3) := by decide +kernel
theorem dX2_mendedByAll_17 : decode cX2_mendedByAll 17 = .ok (.iload_n 2, 1) := by decide +kernel
theorem dX2_mendedByAll_18 : decode cX2_mendedByAll 18 = .ok (.iaload, 1) := by decide +kernel
theorem dX2_mendedByAll_19 : decode cX2_mendedByAll 19 = .ok (.iadd, 1) := by decide +kernel
theorem dX2_mendedByAll_20 : decode cX2_mendedByAll 20 = .ok (.istore_n 1, 1) := by decide +kernel
theorem dX2_mendedByAll_21 : decode cX2_mendedByAll 21 = .ok (.iinc 2 1, 3) := by decide +kernel
theorem dX2_mendedByAll_24 : decode cX2_mendedByAll 24 = .ok (.goto (-20), 3) := by decide +kernel
theorem dX2_mendedByAll_27 : decode cX2_mendedByAll 27 = .ok (.iload_n 1, 1) := by decide +kernel
theorem dX2_mendedByAll_28 : decode cX2_mendedByAll 28 = .ok (.ireturn, 1) := by decide +kernel
