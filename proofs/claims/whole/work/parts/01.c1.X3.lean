theorem dX3_oneCouldSay_8 : decode cX3_oneCouldSay 8 = .ok (.istore_n 3, 1) := by decide +kernel
theorem dX3_oneCouldSay_9 : decode cX3_oneCouldSay 9 = .ok (.iconst 0, 1) := by decide +kernel
theorem dX3_oneCouldSay_10 : decode cX3_oneCouldSay 10 = .ok (.istore 4, 2) := by decide +kernel
theorem dX3_oneCouldSay_12 : decode cX3_oneCouldSay 12 = .ok (.iload 4, 2) := by decide +kernel
theorem dX3_oneCouldSay_14 : decode cX3_oneCouldSay 14 = .ok (.aload_n 0, 1) := by decide +kernel
theorem dX3_oneCouldSay_15 : decode cX3_oneCouldSay 15 = .ok (.getfield 10, 3) := by decide +kernel
theorem dX3_oneCouldSay_18 : decode cX3_oneCouldSay 18 = .ok (.getfield 190, 3) := by decide +kernel
theorem dX3_oneCouldSay_21 : decode cX3_oneCouldSay 21 = .ok (.if_icmp .ge 33, 3) := by decide +kernel
theorem dX3_oneCouldSay_24 : decode cX3_oneCouldSay 24 = .ok (.iconst 1, 1) := by decide +kernel
theorem dX3_oneCouldSay_25 : decode cX3_oneCouldSay 25 = .ok (.iload 4, 2) := by decide +kernel
theorem dX3_oneCouldSay_27 : decode cX3_oneCouldSay 27 = .ok (.ishl, 1) := by decide +kernel
theorem dX3_oneCouldSay_28 : decode cX3_oneCouldSay 28 = .ok (.istore 5, 2) := by decide +kernel
theorem dX3_oneCouldSay_30 : decode cX3_oneCouldSay 30 = .ok (.iload_n 1, 1) := by decide +kernel
theorem dX3_oneCouldSay_31 : decode cX3_oneCouldSay 31 = .ok (.iload 5, 2) := by decide +kernel
theorem dX3_oneCouldSay_33 : decode cX3_oneCouldSay 33 = .ok (.iand, 1) := by decide +kernel
theorem dX3_oneCouldSay_34 : decode cX3_oneCouldSay 34 = .ok (.ifCond .eq 14, 3) := by decide +kernel
theorem dX3_oneCouldSay_37 : decode cX3_oneCouldSay 37 = .ok (.iload_n 3, 1) := by decide +kernel
theorem dX3_oneCouldSay_38 : decode cX3_oneCouldSay 38 = .ok (.iload 5, 2) := by decide +kernel
theorem dX3_oneCouldSay_40 : decode cX3_oneCouldSay 40 = .ok (.iconst (-1), 1) := by decide +kernel
theorem dX3_oneCouldSay_41 : decode cX3_oneCouldSay 41 = .ok (.ixor, 1) := by decide +kernel
theorem dX3_oneCouldSay_42 : decode cX3_oneCouldSay 42 = .ok (.iand, 1) := by decide +kernel
theorem dX3_oneCouldSay_43 : decode cX3_oneCouldSay 43 = .ok (.ifCond .eq 5, 3) := by decide +kernel
theorem dX3_oneCouldSay_46 : decode cX3_oneCouldSay 46 = .ok (.iconst 1, 1) := by decide +kernel
theorem dX3_oneCouldSay_47 : decode cX3_oneCouldSay 47 = .ok (.ireturn, 1) := by decide +kernel
theorem dX3_oneCouldSay_48 : decode cX3_oneCouldSay 48 = .ok (.iinc 4 1, 3) := by decide +kernel
theorem dX3_oneCouldSay_51 : decode cX3_oneCouldSay 51 = .ok (.goto (-39), 3) := by decide +kernel
theorem dX3_oneCouldSay_54 : decode cX3_oneCouldSay 54 = .ok (.iconst 0, 1) := by decide +kernel
theorem dX3_oneCouldSay_55 : decode cX3_oneCouldSay 55 = .ok (.ireturn, 1) := by decide +kernel
set_option maxRecDepth 20000 in
theorem ggX3_learns_X3_outside : GoodIn wsX3_learns wsX3_outside := goodIn_r _ [8] (by decide +kernel) (by decide +kernel)
set_option maxRecDepth 20000 in
theorem gX3_learns_X3_outside : GoodIn wsX3_learns (va_wsS RX3 147 yX3_outside wsX3_outside) := goodIn_app (goodIn_of _ (by decide +kernel)) ggX3_learns_X3_outside
set_option maxRecDepth 20000 in
theorem ggX3_learns_X3_refuse : GoodIn wsX3_learns wsX3_refuse := goodIn_r _ [12, 13, 100, 101, 102, 103, 104, 105, 106, 107, 108, 109, 110] (by decide +kernel) (by decide +kernel)
set_option maxRecDepth 20000 in
theorem gX3_learns_X3_refuse : GoodIn wsX3_learns (wsV RX3 57 RX3 yX3_refuse wsX3_refuse) := goodIn_app (goodIn_of _ (by decide +kernel)) ggX3_learns_X3_refuse
set_option maxRecDepth 20000 in
theorem ggX3_learns_X3_wholeBehind : GoodIn wsX3_learns wsX3_wholeBehind := goodIn_r _ [17, 3, 1, 18, 19, 20, 21, 22, 23, 24, 25, 26, 27, 28, 29, 30, 31, 32, 33, 34, 35, 36, 37, 38, 39, 40, 41, 42, 43, 44, 45, 46, 47, 48, 49, 50, 51, 52, 53, 54, 55, 56, 57, 58, 59, 60, 61, 62, 63, 64, 65, 66, 67, 68, 69, 70, 71, 72, 73, 74, 75, 76, 77, 78, 79, 80, 81, 82, 83, 84, 85, 86, 87, 88, 89, 90, 91, 92, 93, 94, 95, 96, 97, 98, 99, 100, 101, 102, 103, 104, 105, 106, 107, 108, 109, 110, 111, 112, 113, 114, 115, 116, 117, 118, 119, 120] (by decide +kernel) (by decide +kernel)
set_option maxRecDepth 20000 in
theorem gX3_learns_X3_wholeBehind : GoodIn wsX3_learns (wsV RX3 193 RX3 yX3_wholeBehind wsX3_wholeBehind) := goodIn_app (goodIn_of _ (by decide +kernel)) ggX3_learns_X3_wholeBehind
set_option maxRecDepth 20000 in
theorem ggX3_learns_X2_become : GoodIn wsX3_learns wsX2_become := goodIn_r _ [22, 23, 24, 25, 26, 27, 28, 29, 30, 31, 32, 33, 34, 35, 36, 111, 112, 113, 114, 115, 116, 117, 118, 119, 120] (by decide +kernel) (by decide +kernel)
set_option maxRecDepth 20000 in
theorem gX3_learns_X2_become : GoodIn wsX3_learns (wsV RX3 68 RX2 yX2_become wsX2_become) := goodIn_app (goodIn_of _ (by decide +kernel)) ggX3_learns_X2_become
set_option maxRecDepth 20000 in
theorem ggX3_learns_X2_pass : GoodIn wsX3_learns wsX2_pass := goodIn_r _ [40, 36, 34, 41, 42, 43, 21, 44, 35, 45, 46, 47, 48, 33, 49, 50, 51, 52, 29, 30, 53, 54, 55, 56, 32, 57, 58, 59, 60, 61, 62, 63, 64, 65, 66, 67, 68, 23, 69, 70, 71, 72, 73, 74, 75, 76, 31, 77, 78, 79, 80, 81, 82, 83, 84, 28, 111, 112, 113, 114, 115, 116, 117, 118, 119, 120] (by decide +kernel) (by decide +kernel)
set_option maxRecDepth 20000 in
theorem gX3_learns_X2_pass : GoodIn wsX3_learns (wsV RX3 151 RX2 yX2_pass wsX2_pass) := goodIn_app (goodIn_of _ (by decide +kernel)) ggX3_learns_X2_pass
set_option maxRecDepth 20000 in
theorem ggX3_learns_X2_wholeCount : GoodIn wsX3_learns wsX2_wholeCount := goodIn_r _ [88, 89, 90, 91, 21, 92, 35, 45, 46, 47, 48, 33, 93, 94, 95, 96, 97, 98, 99, 111, 112, 113, 114, 115, 116, 117, 118, 119, 120] (by decide +kernel) (by decide +kernel)
set_option maxRecDepth 20000 in
theorem gX3_learns_X2_wholeCount : GoodIn wsX3_learns (wsV RX3 130 RX2 yX2_wholeCount wsX2_wholeCount) := goodIn_app (goodIn_of _ (by decide +kernel)) ggX3_learns_X2_wholeCount
theorem dX3_learns_0 : decode cX3_learns 0 = .ok (.iload_n 1, 1) := by decide +kernel
theorem dX3_learns_1 : decode cX3_learns 1 = .ok (.iconst 0, 1) := by decide +kernel
theorem dX3_learns_2 : decode cX3_learns 2 = .ok (.bipush 99, 2) := by decide +kernel
theorem dX3_learns_4 : decode cX3_learns 4 = .ok (.invokestatic 147, 3) := by decide +kernel
theorem dX3_learns_7 : decode cX3_learns 7 = .ok (.istore_n 2, 1) := by decide +kernel
theorem dX3_learns_8 : decode cX3_learns 8 = .ok (.iload_n 2, 1) := by decide +kernel
theorem dX3_learns_9 : decode cX3_learns 9 = .ok (.ifCond .eq 9, 3) := by decide +kernel
theorem dX3_learns_12 : decode cX3_learns 12 = .ok (.aload_n 0, 1) := by decide +kernel
theorem dX3_learns_13 : decode cX3_learns 13 = .ok (.iload_n 2, 1) := by decide +kernel
theorem dX3_learns_14 : decode cX3_learns 14 = .ok (.invokevirtual 57, 3) := by decide +kernel
theorem dX3_learns_17 : decode cX3_learns 17 = .ok (.ireturn, 1) := by decide +kernel
theorem dX3_learns_18 : decode cX3_learns 18 = .ok (.bipush (-9), 2) := by decide +kernel
theorem dX3_learns_20 : decode cX3_learns 20 = .ok (.istore_n 3, 1) := by decide +kernel
theorem dX3_learns_21 : decode cX3_learns 21 = .ok (.aload_n 0, 1) := by decide +kernel
theorem dX3_learns_22 : decode cX3_learns 22 = .ok (.iload_n 1, 1) := by decide +kernel
theorem dX3_learns_23 : decode cX3_learns 23 = .ok (.invokevirtual 193, 3) := by decide +kernel
theorem dX3_learns_26 : decode cX3_learns 26 = .ok (.istore 4, 2) := by decide +kernel
theorem dX3_learns_28 : decode cX3_learns 28 = .ok (.iconst 0, 1) := by decide +kernel
theorem dX3_learns_29 : decode cX3_learns 29 = .ok (.istore 5, 2) := by decide +kernel
theorem dX3_learns_31 : decode cX3_learns 31 = .ok (.iload 5, 2) := by decide +kernel
theorem dX3_learns_33 : decode cX3_learns 33 = .ok (.aload_n 0, 1) := by decide +kernel
theorem dX3_learns_34 : decode cX3_learns 34 = .ok (.getfield 10, 3) := by decide +kernel
theorem dX3_learns_37 : decode cX3_learns 37 = .ok (.getfield 190, 3) := by decide +kernel
theorem dX3_learns_40 : decode cX3_learns 40 = .ok (.if_icmp .ge 67, 3) := by decide +kernel
theorem dX3_learns_43 : decode cX3_learns 43 = .ok (.aload_n 0, 1) := by decide +kernel
theorem dX3_learns_44 : decode cX3_learns 44 = .ok (.getfield 16, 3) := by decide +kernel
theorem dX3_learns_47 : decode cX3_learns 47 = .ok (.aload_n 0, 1) := by decide +kernel
theorem dX3_learns_48 : decode cX3_learns 48 = .ok (.getfield 10, 3) := by decide +kernel
theorem dX3_learns_51 : decode cX3_learns 51 = .ok (.invokevirtual 68, 3) := by decide +kernel
theorem dX3_learns_54 : decode cX3_learns 54 = .ok (.aload_n 0, 1) := by decide +kernel
theorem dX3_learns_55 : decode cX3_learns 55 = .ok (.getfield 16, 3) := by decide +kernel
theorem dX3_learns_58 : decode cX3_learns 58 = .ok (.getfield 87, 3) := by decide +kernel
theorem dX3_learns_61 : decode cX3_learns 61 = .ok (.iload 5, 2) := by decide +kernel
theorem dX3_learns_63 : decode cX3_learns 63 = .ok (.bipush 9, 2) := by decide +kernel
theorem dX3_learns_65 : decode cX3_learns 65 = .ok (.iastore, 1) := by decide +kernel
theorem dX3_learns_66 : decode cX3_learns 66 = .ok (.aload_n 0, 1) := by decide +kernel
theorem dX3_learns_67 : decode cX3_learns 67 = .ok (.getfield 16, 3) := by decide +kernel
theorem dX3_learns_70 : decode cX3_learns 70 = .ok (.iload_n 1, 1) := by decide +kernel
theorem dX3_learns_71 : decode cX3_learns 71 = .ok (.iconst 1, 1) := by decide +kernel
theorem dX3_learns_72 : decode cX3_learns 72 = .ok (.bipush (-9), 2) := by decide +kernel
theorem dX3_learns_74 : decode cX3_learns 74 = .ok (.invokevirtual 151, 3) := by decide +kernel
theorem dX3_learns_77 : decode cX3_learns 77 = .ok (.aload_n 0, 1) := by decide +kernel
theorem dX3_learns_78 : decode cX3_learns 78 = .ok (.getfield 16, 3) := by decide +kernel
theorem dX3_learns_81 : decode cX3_learns 81 = .ok (.invokevirtual 130, 3) := by decide +kernel
theorem dX3_learns_84 : decode cX3_learns 84 = .ok (.iload 4, 2) := by decide +kernel
theorem dX3_learns_86 : decode cX3_learns 86 = .ok (.if_icmp .le 15, 3) := by decide +kernel
theorem dX3_learns_89 : decode cX3_learns 89 = .ok (.aload_n 0, 1) := by decide +kernel
theorem dX3_learns_90 : decode cX3_learns 90 = .ok (.getfield 16, 3) := by decide +kernel
theorem dX3_learns_93 : decode cX3_learns 93 = .ok (.invokevirtual 130, 3) := by decide +kernel
theorem dX3_learns_96 : decode cX3_learns 96 = .ok (.istore 4, 2) := by decide +kernel
theorem dX3_learns_98 : decode cX3_learns 98 = .ok (.iload 5, 2) := by decide +kernel
theorem dX3_learns_100 : decode cX3_learns 100 = .ok (.istore_n 3, 1) := by decide +kernel
theorem dX3_learns_101 : decode cX3_learns 101 = .ok (.iinc 5 1, 3) := by decide +kernel
theorem dX3_learns_104 : decode cX3_learns 104 = .ok (.goto (-73), 3) := by decide +kernel
theorem dX3_learns_107 : decode cX3_learns 107 = .ok (.iload_n 3, 1) := by decide +kernel
theorem dX3_learns_108 : decode cX3_learns 108 = .ok (.ireturn, 1) := by decide +kernel
set_option maxRecDepth 20000 in
theorem ggX3_missed_X3_outside : GoodIn wsX3_missed wsX3_outside := goodIn_r _ [7] (by decide +kernel) (by decide +kernel)
set_option maxRecDepth 20000 in
theorem gX3_missed_X3_outside : GoodIn wsX3_missed (va_wsS RX3 147 yX3_outside wsX3_outside) := goodIn_app (goodIn_of _ (by decide +kernel)) ggX3_missed_X3_outside
set_option maxRecDepth 20000 in
theorem ggX3_missed_X3_refuse : GoodIn wsX3_missed wsX3_refuse := goodIn_r _ [11, 12, 95, 96, 97, 98, 99, 100, 101, 102, 103, 104, 105] (by decide +kernel) (by decide +kernel)
set_option maxRecDepth 20000 in
theorem gX3_missed_X3_refuse : GoodIn wsX3_missed (wsV RX3 57 RX3 yX3_refuse wsX3_refuse) := goodIn_app (goodIn_of _ (by decide +kernel)) ggX3_missed_X3_refuse
set_option maxRecDepth 20000 in
theorem ggX3_missed_X2_become : GoodIn wsX3_missed wsX2_become := goodIn_r _ [17, 18, 19, 20, 21, 22, 23, 24, 25, 26, 27, 28, 29, 30, 31, 106, 107, 108, 109, 110, 111, 112, 113, 114, 115] (by decide +kernel) (by decide +kernel)
set_option maxRecDepth 20000 in
theorem gX3_missed_X2_become : GoodIn wsX3_missed (wsV RX3 68 RX2 yX2_become wsX2_become) := goodIn_app (goodIn_of _ (by decide +kernel)) ggX3_missed_X2_become
set_option maxRecDepth 20000 in
theorem ggX3_missed_X2_pass : GoodIn wsX3_missed wsX2_pass := goodIn_r _ [35, 31, 29, 36, 37, 38, 16, 39, 30, 40, 41, 42, 43, 28, 44, 45, 46, 47, 24, 25, 48, 49, 50, 51, 27, 52, 53, 54, 55, 56, 57, 58, 59, 60, 61, 62, 63, 18, 64, 65, 66, 67, 68, 69, 70, 71, 26, 72, 73, 74, 75, 76, 77, 78, 79, 23, 106, 107, 108, 109, 110, 111, 112, 113, 114, 115] (by decide +kernel) (by decide +kernel)
set_option maxRecDepth 20000 in
theorem gX3_missed_X2_pass : GoodIn wsX3_missed (wsV RX3 151 RX2 yX2_pass wsX2_pass) := goodIn_app (goodIn_of _ (by decide +kernel)) ggX3_missed_X2_pass
set_option maxRecDepth 20000 in
theorem ggX3_missed_X2_wholeCount : GoodIn wsX3_missed wsX2_wholeCount := goodIn_r _ [83, 84, 85, 86, 16, 87, 30, 40, 41, 42, 43, 28, 88, 89, 90, 91, 92, 93, 94, 106, 107, 108, 109, 110, 111, 112, 113, 114, 115] (by decide +kernel) (by decide +kernel)
set_option maxRecDepth 20000 in
theorem gX3_missed_X2_wholeCount : GoodIn wsX3_missed (wsV RX3 130 RX2 yX2_wholeCount wsX2_wholeCount) := goodIn_app (goodIn_of _ (by decide +kernel)) ggX3_missed_X2_wholeCount
theorem dX3_missed_0 : decode cX3_missed 0 = .ok (.iload_n 1, 1) := by decide +kernel
theorem dX3_missed_1 : decode cX3_missed 1 = .ok (.iconst 0, 1) := by decide +kernel
theorem dX3_missed_2 : decode cX3_missed 2 = .ok (.bipush 99, 2) := by decide +kernel
theorem dX3_missed_4 : decode cX3_missed 4 = .ok (.invokestatic 147, 3) := by decide +kernel
theorem dX3_missed_7 : decode cX3_missed 7 = .ok (.istore_n 2, 1) := by decide +kernel
theorem dX3_missed_8 : decode cX3_missed 8 = .ok (.iload_n 2, 1) := by decide +kernel
theorem dX3_missed_9 : decode cX3_missed 9 = .ok (.ifCond .eq 9, 3) := by decide +kernel
theorem dX3_missed_12 : decode cX3_missed 12 = .ok (.aload_n 0, 1) := by decide +kernel
theorem dX3_missed_13 : decode cX3_missed 13 = .ok (.iload_n 2, 1) := by decide +kernel
theorem dX3_missed_14 : decode cX3_missed 14 = .ok (.invokevirtual 57, 3) := by decide +kernel
theorem dX3_missed_17 : decode cX3_missed 17 = .ok (.ireturn, 1) := by decide +kernel
theorem dX3_missed_18 : decode cX3_missed 18 = .ok (.bipush (-9), 2) := by decide +kernel
theorem dX3_missed_20 : decode cX3_missed 20 = .ok (.istore_n 3, 1) := by decide +kernel
theorem dX3_missed_21 : decode cX3_missed 21 = .ok (.bipush 10, 2) := by decide +kernel
theorem dX3_missed_23 : decode cX3_missed 23 = .ok (.istore 4, 2) := by decide +kernel
theorem dX3_missed_25 : decode cX3_missed 25 = .ok (.iconst 0, 1) := by decide +kernel
theorem dX3_missed_26 : decode cX3_missed 26 = .ok (.istore 5, 2) := by decide +kernel
theorem dX3_missed_28 : decode cX3_missed 28 = .ok (.iload 5, 2) := by decide +kernel
theorem dX3_missed_30 : decode cX3_missed 30 = .ok (.aload_n 0, 1) := by decide +kernel
theorem dX3_missed_31 : decode cX3_missed 31 = .ok (.getfield 10, 3) := by decide +kernel
theorem dX3_missed_34 : decode cX3_missed 34 = .ok (.getfield 190, 3) := by decide +kernel
theorem dX3_missed_37 : decode cX3_missed 37 = .ok (.if_icmp .ge 55, 3) := by decide +kernel
theorem dX3_missed_40 : decode cX3_missed 40 = .ok (.aload_n 0, 1) := by decide +kernel
theorem dX3_missed_41 : decode cX3_missed 41 = .ok (.getfield 16, 3) := by decide +kernel
theorem dX3_missed_44 : decode cX3_missed 44 = .ok (.aload_n 0, 1) := by decide +kernel
theorem dX3_missed_45 : decode cX3_missed 45 = .ok (.getfield 10, 3) := by decide +kernel
theorem dX3_missed_48 : decode cX3_missed 48 = .ok (.invokevirtual 68, 3) := by decide +kernel
theorem dX3_missed_51 : decode cX3_missed 51 = .ok (.aload_n 0, 1) := by decide +kernel
theorem dX3_missed_52 : decode cX3_missed 52 = .ok (.getfield 16, 3) := by decide +kernel
theorem dX3_missed_55 : decode cX3_missed 55 = .ok (.iload_n 1, 1) := by decide +kernel
theorem dX3_missed_56 : decode cX3_missed 56 = .ok (.iconst 1, 1) := by decide +kernel
theorem dX3_missed_57 : decode cX3_missed 57 = .ok (.iload 5, 2) := by decide +kernel
theorem dX3_missed_59 : decode cX3_missed 59 = .ok (.invokevirtual 151, 3) := by decide +kernel
theorem dX3_missed_62 : decode cX3_missed 62 = .ok (.aload_n 0, 1) := by decide +kernel
theorem dX3_missed_63 : decode cX3_missed 63 = .ok (.getfield 16, 3) := by decide +kernel
theorem dX3_missed_66 : decode cX3_missed 66 = .ok (.invokevirtual 130, 3) := by decide +kernel
theorem dX3_missed_69 : decode cX3_missed 69 = .ok (.iload 4, 2) := by decide +kernel
theorem dX3_missed_71 : decode cX3_missed 71 = .ok (.if_icmp .ge 15, 3) := by decide +kernel
theorem dX3_missed_74 : decode cX3_missed 74 = .ok (.aload_n 0, 1) := by decide +kernel
theorem dX3_missed_75 : decode cX3_missed 75 = .ok (.getfield 16, 3) := by decide +kernel
theorem dX3_missed_78 : decode cX3_missed 78 = .ok (.invokevirtual 130, 3) := by decide +kernel
theorem dX3_missed_81 : decode cX3_missed 81 = .ok (.istore 4, 2) := by decide +kernel
theorem dX3_missed_83 : decode cX3_missed 83 = .ok (.iload 5, 2) := by decide +kernel
theorem dX3_missed_85 : decode cX3_missed 85 = .ok (.istore_n 3, 1) := by decide +kernel
theorem dX3_missed_86 : decode cX3_missed 86 = .ok (.iinc 5 1, 3) := by decide +kernel
theorem dX3_missed_89 : decode cX3_missed 89 = .ok (.goto (-61), 3) := by decide +kernel
theorem dX3_missed_92 : decode cX3_missed 92 = .ok (.iload_n 3, 1) := by decide +kernel
theorem dX3_missed_93 : decode cX3_missed 93 = .ok (.ireturn, 1) := by decide +kernel
set_option maxRecDepth 20000 in
theorem ggX3_due_X2_isPerson : GoodIn wsX3_due wsX2_isPerson := goodIn_r _ [10, 11, 35, 36, 37, 38, 39, 40, 41, 42, 43, 44] (by decide +kernel) (by decide +kernel)
set_option maxRecDepth 20000 in
theorem gX3_due_X2_isPerson : GoodIn wsX3_due (wsV RX3 83 RX2 yX2_isPerson wsX2_isPerson) := goodIn_app (goodIn_of _ (by decide +kernel)) ggX3_due_X2_isPerson
set_option maxRecDepth 20000 in
theorem ggX3_due_X3_refuse : GoodIn wsX3_due wsX3_refuse := goodIn_r _ [16, 17, 24, 25, 26, 27, 28, 29, 30, 31, 32, 33, 34] (by decide +kernel) (by decide +kernel)
set_option maxRecDepth 20000 in
theorem gX3_due_X3_refuse : GoodIn wsX3_due (wsV RX3 57 RX3 yX3_refuse wsX3_refuse) := goodIn_app (goodIn_of _ (by decide +kernel)) ggX3_due_X3_refuse
set_option maxRecDepth 20000 in
theorem ggX3_due_X2_isByAnother : GoodIn wsX3_due wsX2_isByAnother := goodIn_r _ [21, 22, 23, 35, 36, 37, 38, 39, 40, 41, 42, 43, 44] (by decide +kernel) (by decide +kernel)
set_option maxRecDepth 20000 in
theorem gX3_due_X2_isByAnother : GoodIn wsX3_due (wsV RX3 208 RX2 yX2_isByAnother wsX2_isByAnother) := goodIn_app (goodIn_of _ (by decide +kernel)) ggX3_due_X2_isByAnother
theorem dX3_due_0 : decode cX3_due 0 = .ok (.aload_n 0, 1) := by decide +kernel
theorem dX3_due_1 : decode cX3_due 1 = .ok (.getfield 10, 3) := by decide +kernel
theorem dX3_due_4 : decode cX3_due 4 = .ok (.iload_n 1, 1) := by decide +kernel
theorem dX3_due_5 : decode cX3_due 5 = .ok (.invokevirtual 83, 3) := by decide +kernel
theorem dX3_due_8 : decode cX3_due 8 = .ok (.ifCond .ne 12, 3) := by decide +kernel
theorem dX3_due_11 : decode cX3_due 11 = .ok (.ldc 207, 2) := by decide +kernel
theorem dX3_due_13 : decode cX3_due 13 = .ok (.aload_n 0, 1) := by decide +kernel
theorem dX3_due_14 : decode cX3_due 14 = .ok (.iconst (-1), 1) := by decide +kernel
theorem dX3_due_15 : decode cX3_due 15 = .ok (.invokevirtual 57, 3) := by decide +kernel
theorem dX3_due_18 : decode cX3_due 18 = .ok (.isub, 1) := by decide +kernel
theorem dX3_due_19 : decode cX3_due 19 = .ok (.ireturn, 1) := by decide +kernel
theorem dX3_due_20 : decode cX3_due 20 = .ok (.iconst 0, 1) := by decide +kernel
theorem dX3_due_21 : decode cX3_due 21 = .ok (.istore_n 2, 1) := by decide +kernel
theorem dX3_due_22 : decode cX3_due 22 = .ok (.iconst 0, 1) := by decide +kernel
theorem dX3_due_23 : decode cX3_due 23 = .ok (.istore_n 3, 1) := by decide +kernel
theorem dX3_due_24 : decode cX3_due 24 = .ok (.iload_n 3, 1) := by decide +kernel
theorem dX3_due_25 : decode cX3_due 25 = .ok (.aload_n 0, 1) := by decide +kernel
theorem dX3_due_26 : decode cX3_due 26 = .ok (.getfield 10, 3) := by decide +kernel
theorem dX3_due_29 : decode cX3_due 29 = .ok (.getfield 171, 3) := by decide +kernel
theorem dX3_due_32 : decode cX3_due 32 = .ok (.if_icmp .ge 55, 3) := by decide +kernel
theorem dX3_due_35 : decode cX3_due 35 = .ok (.aload_n 0, 1) := by decide +kernel
theorem dX3_due_36 : decode cX3_due 36 = .ok (.getfield 10, 3) := by decide +kernel
theorem dX3_due_39 : decode cX3_due 39 = .ok (.iload_n 3, 1) := by decide +kernel
theorem dX3_due_40 : decode cX3_due 40 = .ok (.invokevirtual 208, 3) := by decide +kernel
theorem dX3_due_43 : decode cX3_due 43 = .ok (.ifCond .eq 38, 3) := by decide +kernel
theorem dX3_due_46 : decode cX3_due 46 = .ok (.aload_n 0, 1) := by decide +kernel
theorem dX3_due_47 : decode cX3_due 47 = .ok (.getfield 10, 3) := by decide +kernel
theorem dX3_due_50 : decode cX3_due 50 = .ok (.getfield 114, 3) := by decide +kernel
theorem dX3_due_53 : decode cX3_due 53 = .ok (.iload_n 3, 1) := by decide +kernel
theorem dX3_due_54 : decode cX3_due 54 = .ok (.iaload, 1) := by decide +kernel
theorem dX3_due_55 : decode cX3_due 55 = .ok (.iload_n 1, 1) := by decide +kernel
theorem dX3_due_56 : decode cX3_due 56 = .ok (.if_icmp .ne 9, 3) := by decide +kernel
theorem dX3_due_59 : decode cX3_due 59 = .ok (.iinc 2 1, 3) := by decide +kernel
theorem dX3_due_62 : decode cX3_due 62 = .ok (.goto 19, 3) := by decide +kernel
theorem dX3_due_65 : decode cX3_due 65 = .ok (.aload_n 0, 1) := by decide +kernel
theorem dX3_due_66 : decode cX3_due 66 = .ok (.getfield 10, 3) := by decide +kernel
theorem dX3_due_69 : decode cX3_due 69 = .ok (.getfield 108, 3) := by decide +kernel
theorem dX3_due_72 : decode cX3_due 72 = .ok (.iload_n 3, 1) := by decide +kernel
theorem dX3_due_73 : decode cX3_due 73 = .ok (.iaload, 1) := by decide +kernel
theorem dX3_due_74 : decode cX3_due 74 = .ok (.iload_n 1, 1) := by decide +kernel
theorem dX3_due_75 : decode cX3_due 75 = .ok (.if_icmp .ne 6, 3) := by decide +kernel
theorem dX3_due_78 : decode cX3_due 78 = .ok (.iinc 2 (-1), 3) := by decide +kernel
theorem dX3_due_81 : decode cX3_due 81 = .ok (.iinc 3 1, 3) := by decide +kernel
theorem dX3_due_84 : decode cX3_due 84 = .ok (.goto (-60), 3) := by decide +kernel
theorem dX3_due_87 : decode cX3_due 87 = .ok (.iload_n 2, 1) := by decide +kernel
theorem dX3_due_88 : decode cX3_due 88 = .ok (.ireturn, 1) := by decide +kernel
set_option maxRecDepth 20000 in
theorem ggX3_ring_X2_isPerson : GoodIn wsX3_ring wsX2_isPerson := goodIn_r _ [6, 7, 43, 44, 45, 46, 47, 48, 49, 50, 51, 52] (by decide +kernel) (by decide +kernel)
set_option maxRecDepth 20000 in
theorem gX3_ring_X2_isPerson : GoodIn wsX3_ring (wsV RX3 83 RX2 yX2_isPerson wsX2_isPerson) := goodIn_app (goodIn_of _ (by decide +kernel)) ggX3_ring_X2_isPerson
set_option maxRecDepth 20000 in
theorem ggX3_ring_X3_refuse : GoodIn wsX3_ring wsX3_refuse := goodIn_r _ [12, 13, 32, 33, 34, 35, 36, 37, 38, 39, 40, 41, 42] (by decide +kernel) (by decide +kernel)
set_option maxRecDepth 20000 in
theorem gX3_ring_X3_refuse : GoodIn wsX3_ring (wsV RX3 57 RX3 yX3_refuse wsX3_refuse) := goodIn_app (goodIn_of _ (by decide +kernel)) ggX3_ring_X3_refuse
set_option maxRecDepth 20000 in
theorem ggX3_ring_X2_breakerOfLeast : GoodIn wsX3_ring wsX2_breakerOfLeast := goodIn_r _ [17, 18, 19, 20, 21, 22, 23, 5, 24, 43, 44, 45, 46, 47, 48, 49, 50, 51, 52] (by decide +kernel) (by decide +kernel)
set_option maxRecDepth 20000 in
theorem gX3_ring_X2_breakerOfLeast : GoodIn wsX3_ring (wsV RX3 211 RX2 yX2_breakerOfLeast wsX2_breakerOfLeast) := goodIn_app (goodIn_of _ (by decide +kernel)) ggX3_ring_X2_breakerOfLeast
set_option maxRecDepth 20000 in
theorem ggX3_ring_J6_bitCount_0f7a4 : GoodIn wsX3_ring wsJ6_bitCount_0f7a4 := goodIn_r _ [28, 29, 30, 31] (by decide +kernel) (by decide +kernel)
set_option maxRecDepth 20000 in
theorem gX3_ring_J6_bitCount_0f7a4 : GoodIn wsX3_ring (va_wsS RX3 196 yJ6_bitCount_0f7a4 wsJ6_bitCount_0f7a4) := goodIn_app (goodIn_of _ (by decide +kernel)) ggX3_ring_J6_bitCount_0f7a4
theorem dX3_ring_0 : decode cX3_ring 0 = .ok (.aload_n 0, 1) := by decide +kernel
theorem dX3_ring_1 : decode cX3_ring 1 = .ok (.getfield 10, 3) := by decide +kernel
theorem dX3_ring_4 : decode cX3_ring 4 = .ok (.iload_n 1, 1) := by decide +kernel
theorem dX3_ring_5 : decode cX3_ring 5 = .ok (.invokevirtual 83, 3) := by decide +kernel
theorem dX3_ring_8 : decode cX3_ring 8 = .ok (.ifCond .ne 9, 3) := by decide +kernel
theorem dX3_ring_11 : decode cX3_ring 11 = .ok (.aload_n 0, 1) := by decide +kernel
theorem dX3_ring_12 : decode cX3_ring 12 = .ok (.iconst (-1), 1) := by decide +kernel
theorem dX3_ring_13 : decode cX3_ring 13 = .ok (.invokevirtual 57, 3) := by decide +kernel
theorem dX3_ring_16 : decode cX3_ring 16 = .ok (.ireturn, 1) := by decide +kernel
theorem dX3_ring_17 : decode cX3_ring 17 = .ok (.iload_n 2, 1) := by decide +kernel
theorem dX3_ring_18 : decode cX3_ring 18 = .ok (.ifCond .lt 8, 3) := by decide +kernel
theorem dX3_ring_21 : decode cX3_ring 21 = .ok (.iload_n 2, 1) := by decide +kernel
theorem dX3_ring_22 : decode cX3_ring 22 = .ok (.iconst 1, 1) := by decide +kernel
theorem dX3_ring_23 : decode cX3_ring 23 = .ok (.if_icmp .le 10, 3) := by decide +kernel
theorem dX3_ring_26 : decode cX3_ring 26 = .ok (.aload_n 0, 1) := by decide +kernel
theorem dX3_ring_27 : decode cX3_ring 27 = .ok (.bipush (-2), 2) := by decide +kernel
theorem dX3_ring_29 : decode cX3_ring 29 = .ok (.invokevirtual 57, 3) := by decide +kernel
theorem dX3_ring_32 : decode cX3_ring 32 = .ok (.ireturn, 1) := by decide +kernel
theorem dX3_ring_33 : decode cX3_ring 33 = .ok (.iconst 0, 1) := by decide +kernel
theorem dX3_ring_34 : decode cX3_ring 34 = .ok (.istore_n 3, 1) := by decide +kernel
theorem dX3_ring_35 : decode cX3_ring 35 = .ok (.iload_n 1, 1) := by decide +kernel
theorem dX3_ring_36 : decode cX3_ring 36 = .ok (.istore 4, 2) := by decide +kernel
theorem dX3_ring_38 : decode cX3_ring 38 = .ok (.iconst 0, 1) := by decide +kernel
theorem dX3_ring_39 : decode cX3_ring 39 = .ok (.istore 5, 2) := by decide +kernel
theorem dX3_ring_41 : decode cX3_ring 41 = .ok (.iload 5, 2) := by decide +kernel
theorem dX3_ring_43 : decode cX3_ring 43 = .ok (.bipush 6, 2) := by decide +kernel
theorem dX3_ring_45 : decode cX3_ring 45 = .ok (.if_icmp .ge 43, 3) := by decide +kernel
theorem dX3_ring_48 : decode cX3_ring 48 = .ok (.iload 4, 2) := by decide +kernel
theorem dX3_ring_50 : decode cX3_ring 50 = .ok (.bipush (-9), 2) := by decide +kernel
theorem dX3_ring_52 : decode cX3_ring 52 = .ok (.if_icmp .eq 36, 3) := by decide +kernel
theorem dX3_ring_55 : decode cX3_ring 55 = .ok (.iload_n 3, 1) := by decide +kernel
theorem dX3_ring_56 : decode cX3_ring 56 = .ok (.iconst 1, 1) := by decide +kernel
theorem dX3_ring_57 : decode cX3_ring 57 = .ok (.iload 4, 2) := by decide +kernel
theorem dX3_ring_59 : decode cX3_ring 59 = .ok (.ishl, 1) := by decide +kernel
theorem dX3_ring_60 : decode cX3_ring 60 = .ok (.iand, 1) := by decide +kernel
theorem dX3_ring_61 : decode cX3_ring 61 = .ok (.ifCond .ne 27, 3) := by decide +kernel
theorem dX3_ring_64 : decode cX3_ring 64 = .ok (.iload_n 3, 1) := by decide +kernel
theorem dX3_ring_65 : decode cX3_ring 65 = .ok (.iconst 1, 1) := by decide +kernel
theorem dX3_ring_66 : decode cX3_ring 66 = .ok (.iload 4, 2) := by decide +kernel
theorem dX3_ring_68 : decode cX3_ring 68 = .ok (.ishl, 1) := by decide +kernel
theorem dX3_ring_69 : decode cX3_ring 69 = .ok (.ior, 1) := by decide +kernel
theorem dX3_ring_70 : decode cX3_ring 70 = .ok (.istore_n 3, 1) := by decide +kernel
theorem dX3_ring_71 : decode cX3_ring 71 = .ok (.aload_n 0, 1) := by decide +kernel
theorem dX3_ring_72 : decode cX3_ring 72 = .ok (.getfield 10, 3) := by decide +kernel
theorem dX3_ring_75 : decode cX3_ring 75 = .ok (.iload 4, 2) := by decide +kernel
theorem dX3_ring_77 : decode cX3_ring 77 = .ok (.invokevirtual 211, 3) := by decide +kernel
theorem dX3_ring_80 : decode cX3_ring 80 = .ok (.istore 4, 2) := by decide +kernel
theorem dX3_ring_82 : decode cX3_ring 82 = .ok (.iinc 5 1, 3) := by decide +kernel
theorem dX3_ring_85 : decode cX3_ring 85 = .ok (.goto (-44), 3) := by decide +kernel
theorem dX3_ring_88 : decode cX3_ring 88 = .ok (.iload_n 2, 1) := by decide +kernel
theorem dX3_ring_89 : decode cX3_ring 89 = .ok (.ifCond .ne 8, 3) := by decide +kernel
theorem dX3_ring_92 : decode cX3_ring 92 = .ok (.iload_n 3, 1) := by decide +kernel
theorem dX3_ring_93 : decode cX3_ring 93 = .ok (.invokestatic 196, 3) := by decide +kernel
theorem dX3_ring_96 : decode cX3_ring 96 = .ok (.ireturn, 1) := by decide +kernel
theorem dX3_ring_97 : decode cX3_ring 97 = .ok (.iload 4, 2) := by decide +kernel
theorem dX3_ring_99 : decode cX3_ring 99 = .ok (.bipush (-9), 2) := by decide +kernel
theorem dX3_ring_101 : decode cX3_ring 101 = .ok (.if_icmp .ne 7, 3) := by decide +kernel
theorem dX3_ring_104 : decode cX3_ring 104 = .ok (.iconst 0, 1) := by decide +kernel
theorem dX3_ring_105 : decode cX3_ring 105 = .ok (.goto 4, 3) := by decide +kernel
theorem dX3_ring_108 : decode cX3_ring 108 = .ok (.iconst 1, 1) := by decide +kernel
theorem dX3_ring_109 : decode cX3_ring 109 = .ok (.ireturn, 1) := by decide +kernel
set_option maxRecDepth 20000 in
theorem ggX3_arranged_X3_arrangements : GoodIn wsX3_arranged wsX3_arrangements := goodIn_r _ [5, 6, 7, 8, 9, 10, 11, 12, 13, 14, 15, 42, 43, 44, 45, 46, 47, 48, 49, 50, 51, 52, 53, 54, 55, 56, 57, 58, 59, 60, 61, 62] (by decide +kernel) (by decide +kernel)
set_option maxRecDepth 20000 in
theorem gX3_arranged_X3_arrangements : GoodIn wsX3_arranged (wsV RX3 214 RX3 yX3_arrangements wsX3_arrangements) := goodIn_app (goodIn_of _ (by decide +kernel)) ggX3_arranged_X3_arrangements
set_option maxRecDepth 20000 in
theorem ggX3_arranged_X3_guilty : GoodIn wsX3_arranged wsX3_guilty := goodIn_r _ [19, 6, 7, 20, 21, 22, 11, 23, 13, 14, 42, 43, 44, 45, 46, 47, 48, 49, 50, 51, 52, 53, 54, 55, 56, 57, 58, 59, 60, 61, 62] (by decide +kernel) (by decide +kernel)
set_option maxRecDepth 20000 in
theorem gX3_arranged_X3_guilty : GoodIn wsX3_arranged (wsV RX3 217 RX3 yX3_guilty wsX3_guilty) := goodIn_app (goodIn_of _ (by decide +kernel)) ggX3_arranged_X3_guilty
set_option maxRecDepth 20000 in
theorem ggX3_arranged_X3_richest : GoodIn wsX3_arranged wsX3_richest := goodIn_r _ [27, 6, 7, 28, 29, 30, 11, 31, 13, 15, 32, 33, 34, 35, 36, 14, 42, 43, 44, 45, 46, 47, 48, 49, 50, 51, 52, 53, 54, 55, 56, 57, 58, 59, 60, 61, 62] (by decide +kernel) (by decide +kernel)
set_option maxRecDepth 20000 in
theorem gX3_arranged_X3_richest : GoodIn wsX3_arranged (wsV RX3 220 RX3 yX3_richest wsX3_richest) := goodIn_app (goodIn_of _ (by decide +kernel)) ggX3_arranged_X3_richest
set_option maxRecDepth 20000 in
theorem ggX3_arranged_X3_refuse : GoodIn wsX3_arranged wsX3_refuse := goodIn_r _ [40, 41, 42, 43, 44, 45, 46, 47, 48, 49, 50, 51, 52] (by decide +kernel) (by decide +kernel)
set_option maxRecDepth 20000 in
theorem gX3_arranged_X3_refuse : GoodIn wsX3_arranged (wsV RX3 57 RX3 yX3_refuse wsX3_refuse) := goodIn_app (goodIn_of _ (by decide +kernel)) ggX3_arranged_X3_refuse
theorem dX3_arranged_0 : decode cX3_arranged 0 = .ok (.iload_n 1, 1) := by decide +kernel
theorem dX3_arranged_1 : decode cX3_arranged 1 = .ok (.tableswitch 42 0 2 #[27, 32, 37], 27) := by decide +kernel
theorem dX3_arranged_28 : decode cX3_arranged 28 = .ok (.aload_n 0, 1) := by decide +kernel
theorem dX3_arranged_29 : decode cX3_arranged 29 = .ok (.invokevirtual 214, 3) := by decide +kernel
theorem dX3_arranged_32 : decode cX3_arranged 32 = .ok (.ireturn, 1) := by decide +kernel
theorem dX3_arranged_33 : decode cX3_arranged 33 = .ok (.aload_n 0, 1) := by decide +kernel
theorem dX3_arranged_34 : decode cX3_arranged 34 = .ok (.invokevirtual 217, 3) := by decide +kernel
theorem dX3_arranged_37 : decode cX3_arranged 37 = .ok (.ireturn, 1) := by decide +kernel
theorem dX3_arranged_38 : decode cX3_arranged 38 = .ok (.aload_n 0, 1) := by decide +kernel
theorem dX3_arranged_39 : decode cX3_arranged 39 = .ok (.invokevirtual 220, 3) := by decide +kernel
theorem dX3_arranged_42 : decode cX3_arranged 42 = .ok (.ireturn, 1) := by decide +kernel
theorem dX3_arranged_43 : decode cX3_arranged 43 = .ok (.aload_n 0, 1) := by decide +kernel
theorem dX3_arranged_44 : decode cX3_arranged 44 = .ok (.bipush (-2), 2) := by decide +kernel
theorem dX3_arranged_46 : decode cX3_arranged 46 = .ok (.invokevirtual 57, 3) := by decide +kernel
theorem dX3_arranged_49 : decode cX3_arranged 49 = .ok (.ireturn, 1) := by decide +kernel
set_option maxRecDepth 20000 in
theorem ggX3_arrangements_X2_hasBrokenOf : GoodIn wsX3_arrangements wsX2_hasBrokenOf := goodIn_r _ [7, 8, 9, 10, 22, 23, 24, 25, 26, 27, 28, 29, 30, 31] (by decide +kernel) (by decide +kernel)
set_option maxRecDepth 20000 in
theorem gX3_arrangements_X2_hasBrokenOf : GoodIn wsX3_arrangements (wsV RX3 223 RX2 yX2_hasBrokenOf wsX2_hasBrokenOf) := goodIn_app (goodIn_of _ (by decide +kernel)) ggX3_arrangements_X2_hasBrokenOf
theorem dX3_arrangements_0 : decode cX3_arrangements 0 = .ok (.iconst 0, 1) := by decide +kernel
theorem dX3_arrangements_1 : decode cX3_arrangements 1 = .ok (.istore_n 1, 1) := by decide +kernel
theorem dX3_arrangements_2 : decode cX3_arrangements 2 = .ok (.iconst 0, 1) := by decide +kernel
theorem dX3_arrangements_3 : decode cX3_arrangements 3 = .ok (.istore_n 2, 1) := by decide +kernel
theorem dX3_arrangements_4 : decode cX3_arrangements 4 = .ok (.iload_n 2, 1) := by decide +kernel
theorem dX3_arrangements_5 : decode cX3_arrangements 5 = .ok (.aload_n 0, 1) := by decide +kernel
theorem dX3_arrangements_6 : decode cX3_arrangements 6 = .ok (.getfield 10, 3) := by decide +kernel
theorem dX3_arrangements_9 : decode cX3_arrangements 9 = .ok (.getfield 190, 3) := by decide +kernel
theorem dX3_arrangements_12 : decode cX3_arrangements 12 = .ok (.if_icmp .ge 57, 3) := by decide +kernel
theorem dX3_arrangements_15 : decode cX3_arrangements 15 = .ok (.iload_n 2, 1) := by decide +kernel
theorem dX3_arrangements_16 : decode cX3_arrangements 16 = .ok (.iconst 1, 1) := by decide +kernel
theorem dX3_arrangements_17 : decode cX3_arrangements 17 = .ok (.iadd, 1) := by decide +kernel
theorem dX3_arrangements_18 : decode cX3_arrangements 18 = .ok (.istore_n 3, 1) := by decide +kernel
theorem dX3_arrangements_19 : decode cX3_arrangements 19 = .ok (.iload_n 3, 1) := by decide +kernel
theorem dX3_arrangements_20 : decode cX3_arrangements 20 = .ok (.aload_n 0, 1) := by decide +kernel
theorem dX3_arrangements_21 : decode cX3_arrangements 21 = .ok (.getfield 10, 3) := by decide +kernel
theorem dX3_arrangements_24 : decode cX3_arrangements 24 = .ok (.getfield 190, 3) := by decide +kernel
theorem dX3_arrangements_27 : decode cX3_arrangements 27 = .ok (.if_icmp .ge 36, 3) := by decide +kernel
theorem dX3_arrangements_30 : decode cX3_arrangements 30 = .ok (.aload_n 0, 1) := by decide +kernel
theorem dX3_arrangements_31 : decode cX3_arrangements 31 = .ok (.getfield 10, 3) := by decide +kernel
theorem dX3_arrangements_34 : decode cX3_arrangements 34 = .ok (.iload_n 2, 1) := by decide +kernel
theorem dX3_arrangements_35 : decode cX3_arrangements 35 = .ok (.iload_n 3, 1) := by decide +kernel
theorem dX3_arrangements_36 : decode cX3_arrangements 36 = .ok (.invokevirtual 223, 3) := by decide +kernel
theorem dX3_arrangements_39 : decode cX3_arrangements 39 = .ok (.ifCond .eq 18, 3) := by decide +kernel
theorem dX3_arrangements_42 : decode cX3_arrangements 42 = .ok (.aload_n 0, 1) := by decide +kernel
theorem dX3_arrangements_43 : decode cX3_arrangements 43 = .ok (.getfield 10, 3) := by decide +kernel
theorem dX3_arrangements_46 : decode cX3_arrangements 46 = .ok (.iload_n 3, 1) := by decide +kernel
theorem dX3_arrangements_47 : decode cX3_arrangements 47 = .ok (.iload_n 2, 1) := by decide +kernel
theorem dX3_arrangements_48 : decode cX3_arrangements 48 = .ok (.invokevirtual 223, 3) := by decide +kernel
theorem dX3_arrangements_51 : decode cX3_arrangements 51 = .ok (.ifCond .eq 6, 3) := by decide +kernel
theorem dX3_arrangements_54 : decode cX3_arrangements 54 = .ok (.iinc 1 1, 3) := by decide +kernel
theorem dX3_arrangements_57 : decode cX3_arrangements 57 = .ok (.iinc 3 1, 3) := by decide +kernel
theorem dX3_arrangements_60 : decode cX3_arrangements 60 = .ok (.goto (-41), 3) := by decide +kernel
theorem dX3_arrangements_63 : decode cX3_arrangements 63 = .ok (.iinc 2 1, 3) := by decide +kernel
theorem dX3_arrangements_66 : decode cX3_arrangements 66 = .ok (.goto (-62), 3) := by decide +kernel
theorem dX3_arrangements_69 : decode cX3_arrangements 69 = .ok (.iload_n 1, 1) := by decide +kernel
theorem dX3_arrangements_70 : decode cX3_arrangements 70 = .ok (.ireturn, 1) := by decide +kernel
set_option maxRecDepth 20000 in
theorem ggX3_guilty_X2_brokenBy : GoodIn wsX3_guilty wsX2_brokenBy := goodIn_r _ [7, 8, 9, 21, 22, 23, 24, 25, 26, 27, 28, 29, 30] (by decide +kernel) (by decide +kernel)
set_option maxRecDepth 20000 in
theorem gX3_guilty_X2_brokenBy : GoodIn wsX3_guilty (wsV RX3 96 RX2 yX2_brokenBy wsX2_brokenBy) := goodIn_app (goodIn_of _ (by decide +kernel)) ggX3_guilty_X2_brokenBy
theorem dX3_guilty_0 : decode cX3_guilty 0 = .ok (.bipush (-9), 2) := by decide +kernel
theorem dX3_guilty_2 : decode cX3_guilty 2 = .ok (.istore_n 1, 1) := by decide +kernel
theorem dX3_guilty_3 : decode cX3_guilty 3 = .ok (.iconst 0, 1) := by decide +kernel
theorem dX3_guilty_4 : decode cX3_guilty 4 = .ok (.istore_n 2, 1) := by decide +kernel
theorem dX3_guilty_5 : decode cX3_guilty 5 = .ok (.iconst 0, 1) := by decide +kernel
theorem dX3_guilty_6 : decode cX3_guilty 6 = .ok (.istore_n 3, 1) := by decide +kernel
theorem dX3_guilty_7 : decode cX3_guilty 7 = .ok (.iload_n 3, 1) := by decide +kernel
theorem dX3_guilty_8 : decode cX3_guilty 8 = .ok (.aload_n 0, 1) := by decide +kernel
theorem dX3_guilty_9 : decode cX3_guilty 9 = .ok (.getfield 10, 3) := by decide +kernel
theorem dX3_guilty_12 : decode cX3_guilty 12 = .ok (.getfield 190, 3) := by decide +kernel
theorem dX3_guilty_15 : decode cX3_guilty 15 = .ok (.if_icmp .ge 32, 3) := by decide +kernel
theorem dX3_guilty_18 : decode cX3_guilty 18 = .ok (.aload_n 0, 1) := by decide +kernel
theorem dX3_guilty_19 : decode cX3_guilty 19 = .ok (.getfield 10, 3) := by decide +kernel
theorem dX3_guilty_22 : decode cX3_guilty 22 = .ok (.iload_n 3, 1) := by decide +kernel
theorem dX3_guilty_23 : decode cX3_guilty 23 = .ok (.invokevirtual 96, 3) := by decide +kernel
theorem dX3_guilty_26 : decode cX3_guilty 26 = .ok (.iload_n 2, 1) := by decide +kernel
theorem dX3_guilty_27 : decode cX3_guilty 27 = .ok (.if_icmp .le 14, 3) := by decide +kernel
theorem dX3_guilty_30 : decode cX3_guilty 30 = .ok (.aload_n 0, 1) := by decide +kernel
theorem dX3_guilty_31 : decode cX3_guilty 31 = .ok (.getfield 10, 3) := by decide +kernel
theorem dX3_guilty_34 : decode cX3_guilty 34 = .ok (.iload_n 3, 1) := by decide +kernel
theorem dX3_guilty_35 : decode cX3_guilty 35 = .ok (.invokevirtual 96, 3) := by decide +kernel
theorem dX3_guilty_38 : decode cX3_guilty 38 = .ok (.istore_n 2, 1) := by decide +kernel
theorem dX3_guilty_39 : decode cX3_guilty 39 = .ok (.iload_n 3, 1) := by decide +kernel
theorem dX3_guilty_40 : decode cX3_guilty 40 = .ok (.istore_n 1, 1) := by decide +kernel
theorem dX3_guilty_41 : decode cX3_guilty 41 = .ok (.iinc 3 1, 3) := by decide +kernel
theorem dX3_guilty_44 : decode cX3_guilty 44 = .ok (.goto (-37), 3) := by decide +kernel
theorem dX3_guilty_47 : decode cX3_guilty 47 = .ok (.iload_n 1, 1) := by decide +kernel
theorem dX3_guilty_48 : decode cX3_guilty 48 = .ok (.ireturn, 1) := by decide +kernel
set_option maxRecDepth 20000 in
theorem ggX3_richest_X2_riches : GoodIn wsX3_richest wsX2_riches := goodIn_r _ [7, 8, 9, 10, 11, 12, 13, 6, 14, 15, 27, 28, 29, 30, 31, 32, 33, 34, 35, 36] (by decide +kernel) (by decide +kernel)
set_option maxRecDepth 20000 in
theorem gX3_richest_X2_riches : GoodIn wsX3_richest (wsV RX3 226 RX2 yX2_riches wsX2_riches) := goodIn_app (goodIn_of _ (by decide +kernel)) ggX3_richest_X2_riches
theorem dX3_richest_0 : decode cX3_richest 0 = .ok (.bipush (-9), 2) := by decide +kernel
theorem dX3_richest_2 : decode cX3_richest 2 = .ok (.istore_n 1, 1) := by decide +kernel
theorem dX3_richest_3 : decode cX3_richest 3 = .ok (.iconst (-1), 1) := by decide +kernel
theorem dX3_richest_4 : decode cX3_richest 4 = .ok (.istore_n 2, 1) := by decide +kernel
theorem dX3_richest_5 : decode cX3_richest 5 = .ok (.iconst 0, 1) := by decide +kernel
theorem dX3_richest_6 : decode cX3_richest 6 = .ok (.istore_n 3, 1) := by decide +kernel
theorem dX3_richest_7 : decode cX3_richest 7 = .ok (.iload_n 3, 1) := by decide +kernel
theorem dX3_richest_8 : decode cX3_richest 8 = .ok (.aload_n 0, 1) := by decide +kernel
theorem dX3_richest_9 : decode cX3_richest 9 = .ok (.getfield 10, 3) := by decide +kernel
theorem dX3_richest_12 : decode cX3_richest 12 = .ok (.getfield 190, 3) := by decide +kernel
theorem dX3_richest_15 : decode cX3_richest 15 = .ok (.if_icmp .ge 32, 3) := by decide +kernel
theorem dX3_richest_18 : decode cX3_richest 18 = .ok (.aload_n 0, 1) := by decide +kernel
theorem dX3_richest_19 : decode cX3_richest 19 = .ok (.getfield 10, 3) := by decide +kernel
theorem dX3_richest_22 : decode cX3_richest 22 = .ok (.iload_n 3, 1) := by decide +kernel
theorem dX3_richest_23 : decode cX3_richest 23 = .ok (.invokevirtual 226, 3) := by decide +kernel
theorem dX3_richest_26 : decode cX3_richest 26 = .ok (.iload_n 2, 1) := by decide +kernel
theorem dX3_richest_27 : decode cX3_richest 27 = .ok (.if_icmp .le 14, 3) := by decide +kernel
theorem dX3_richest_30 : decode cX3_richest 30 = .ok (.aload_n 0, 1) := by decide +kernel
theorem dX3_richest_31 : decode cX3_richest 31 = .ok (.getfield 10, 3) := by decide +kernel
theorem dX3_richest_34 : decode cX3_richest 34 = .ok (.iload_n 3, 1) := by decide +kernel
theorem dX3_richest_35 : decode cX3_richest 35 = .ok (.invokevirtual 226, 3) := by decide +kernel
theorem dX3_richest_38 : decode cX3_richest 38 = .ok (.istore_n 2, 1) := by decide +kernel
theorem dX3_richest_39 : decode cX3_richest 39 = .ok (.iload_n 3, 1) := by decide +kernel
theorem dX3_richest_40 : decode cX3_richest 40 = .ok (.istore_n 1, 1) := by decide +kernel
theorem dX3_richest_41 : decode cX3_richest 41 = .ok (.iinc 3 1, 3) := by decide +kernel
theorem dX3_richest_44 : decode cX3_richest 44 = .ok (.goto (-37), 3) := by decide +kernel
theorem dX3_richest_47 : decode cX3_richest 47 = .ok (.iload_n 1, 1) := by decide +kernel
theorem dX3_richest_48 : decode cX3_richest 48 = .ok (.ireturn, 1) := by decide +kernel
set_option maxRecDepth 20000 in
theorem ggX3_two_X2_isPerson : GoodIn wsX3_two wsX2_isPerson := goodIn_r _ [8, 9, 105, 106, 107, 108, 109, 110, 111, 112, 113, 114] (by decide +kernel) (by decide +kernel)
set_option maxRecDepth 20000 in
theorem gX3_two_X2_isPerson : GoodIn wsX3_two (wsV RX3 83 RX2 yX2_isPerson wsX2_isPerson) := goodIn_app (goodIn_of _ (by decide +kernel)) ggX3_two_X2_isPerson
set_option maxRecDepth 20000 in
theorem ggX3_two_X3_refuse : GoodIn wsX3_two wsX3_refuse := goodIn_r _ [14, 15, 94, 95, 96, 97, 98, 99, 100, 101, 102, 103, 104] (by decide +kernel) (by decide +kernel)
set_option maxRecDepth 20000 in
theorem gX3_two_X3_refuse : GoodIn wsX3_two (wsV RX3 57 RX3 yX3_refuse wsX3_refuse) := goodIn_app (goodIn_of _ (by decide +kernel)) ggX3_two_X3_refuse
set_option maxRecDepth 20000 in
theorem ggX3_two_X3_outside : GoodIn wsX3_two wsX3_outside := goodIn_r _ [18] (by decide +kernel) (by decide +kernel)
set_option maxRecDepth 20000 in
theorem gX3_two_X3_outside : GoodIn wsX3_two (va_wsS RX3 147 yX3_outside wsX3_outside) := goodIn_app (goodIn_of _ (by decide +kernel)) ggX3_two_X3_outside
set_option maxRecDepth 20000 in
theorem ggX3_two_X3_thinkOut : GoodIn wsX3_two wsX3_thinkOut := goodIn_r _ [22, 23, 1, 2, 3, 24, 25, 26, 7, 27, 28, 29, 30, 31, 32, 33, 34, 35, 36, 37, 38, 9, 39, 40, 41, 42, 43, 44, 45, 46, 47, 48, 49, 50, 51, 52, 53, 54, 55, 56, 57, 58, 59, 60, 61, 62, 63, 64, 65, 66, 67, 68, 69, 70, 71, 72, 73, 74, 75, 76, 77, 78, 79, 80, 81, 82, 83, 84, 85, 5, 6, 8, 86, 87, 88, 89, 90, 91, 92, 93, 94, 95, 96, 97, 98, 99, 100, 101, 102, 103, 104, 105, 106, 107, 108, 109, 110, 111, 112, 113, 114] (by decide +kernel) (by decide +kernel)
set_option maxRecDepth 20000 in
theorem gX3_two_X3_thinkOut : GoodIn wsX3_two (wsV RX3 229 RX3 yX3_thinkOut wsX3_thinkOut) := goodIn_app (goodIn_of _ (by decide +kernel)) ggX3_two_X3_thinkOut
theorem dX3_two_0 : decode cX3_two 0 = .ok (.aload_n 0, 1) := by decide +kernel
theorem dX3_two_1 : decode cX3_two 1 = .ok (.getfield 10, 3) := by decide +kernel
theorem dX3_two_4 : decode cX3_two 4 = .ok (.iload_n 1, 1) := by decide +kernel
theorem dX3_two_5 : decode cX3_two 5 = .ok (.invokevirtual 83, 3) := by decide +kernel
theorem dX3_two_8 : decode cX3_two 8 = .ok (.ifCond .eq 19, 3) := by decide +kernel
theorem dX3_two_11 : decode cX3_two 11 = .ok (.aload_n 0, 1) := by decide +kernel
theorem dX3_two_12 : decode cX3_two 12 = .ok (.getfield 10, 3) := by decide +kernel
theorem dX3_two_15 : decode cX3_two 15 = .ok (.iload_n 2, 1) := by decide +kernel
theorem dX3_two_16 : decode cX3_two 16 = .ok (.invokevirtual 83, 3) := by decide +kernel
theorem dX3_two_19 : decode cX3_two 19 = .ok (.ifCond .eq 8, 3) := by decide +kernel
theorem dX3_two_22 : decode cX3_two 22 = .ok (.iload_n 1, 1) := by decide +kernel
theorem dX3_two_23 : decode cX3_two 23 = .ok (.iload_n 2, 1) := by decide +kernel
theorem dX3_two_24 : decode cX3_two 24 = .ok (.if_icmp .ne 9, 3) := by decide +kernel
theorem dX3_two_27 : decode cX3_two 27 = .ok (.aload_n 0, 1) := by decide +kernel
theorem dX3_two_28 : decode cX3_two 28 = .ok (.iconst (-1), 1) := by decide +kernel
theorem dX3_two_29 : decode cX3_two 29 = .ok (.invokevirtual 57, 3) := by decide +kernel
theorem dX3_two_32 : decode cX3_two 32 = .ok (.ireturn, 1) := by decide +kernel
theorem dX3_two_33 : decode cX3_two 33 = .ok (.iload_n 3, 1) := by decide +kernel
theorem dX3_two_34 : decode cX3_two 34 = .ok (.iconst 0, 1) := by decide +kernel
theorem dX3_two_35 : decode cX3_two 35 = .ok (.bipush 99, 2) := by decide +kernel
theorem dX3_two_37 : decode cX3_two 37 = .ok (.invokestatic 147, 3) := by decide +kernel
theorem dX3_two_40 : decode cX3_two 40 = .ok (.istore 4, 2) := by decide +kernel
theorem dX3_two_42 : decode cX3_two 42 = .ok (.iload 4, 2) := by decide +kernel
theorem dX3_two_44 : decode cX3_two 44 = .ok (.ifCond .eq 10, 3) := by decide +kernel
theorem dX3_two_47 : decode cX3_two 47 = .ok (.aload_n 0, 1) := by decide +kernel
theorem dX3_two_48 : decode cX3_two 48 = .ok (.iload 4, 2) := by decide +kernel
theorem dX3_two_50 : decode cX3_two 50 = .ok (.invokevirtual 57, 3) := by decide +kernel
theorem dX3_two_53 : decode cX3_two 53 = .ok (.ireturn, 1) := by decide +kernel
theorem dX3_two_54 : decode cX3_two 54 = .ok (.iconst 0, 1) := by decide +kernel
theorem dX3_two_55 : decode cX3_two 55 = .ok (.istore 5, 2) := by decide +kernel
theorem dX3_two_57 : decode cX3_two 57 = .ok (.iload 5, 2) := by decide +kernel
theorem dX3_two_59 : decode cX3_two 59 = .ok (.iconst 4, 1) := by decide +kernel
theorem dX3_two_60 : decode cX3_two 60 = .ok (.if_icmp .ge 18, 3) := by decide +kernel
theorem dX3_two_63 : decode cX3_two 63 = .ok (.aload_n 0, 1) := by decide +kernel
theorem dX3_two_64 : decode cX3_two 64 = .ok (.iload_n 1, 1) := by decide +kernel
theorem dX3_two_65 : decode cX3_two 65 = .ok (.iload_n 2, 1) := by decide +kernel
theorem dX3_two_66 : decode cX3_two 66 = .ok (.iload_n 3, 1) := by decide +kernel
theorem dX3_two_67 : decode cX3_two 67 = .ok (.iload 5, 2) := by decide +kernel
theorem dX3_two_69 : decode cX3_two 69 = .ok (.invokevirtual 229, 3) := by decide +kernel
theorem dX3_two_72 : decode cX3_two 72 = .ok (.iinc 5 1, 3) := by decide +kernel
theorem dX3_two_75 : decode cX3_two 75 = .ok (.goto (-18), 3) := by decide +kernel
theorem dX3_two_78 : decode cX3_two 78 = .ok (.iconst 0, 1) := by decide +kernel
theorem dX3_two_79 : decode cX3_two 79 = .ok (.istore 5, 2) := by decide +kernel
theorem dX3_two_81 : decode cX3_two 81 = .ok (.iload 5, 2) := by decide +kernel
theorem dX3_two_83 : decode cX3_two 83 = .ok (.iconst 4, 1) := by decide +kernel
theorem dX3_two_84 : decode cX3_two 84 = .ok (.if_icmp .ge 60, 3) := by decide +kernel
theorem dX3_two_87 : decode cX3_two 87 = .ok (.aload_n 0, 1) := by decide +kernel
theorem dX3_two_88 : decode cX3_two 88 = .ok (.getfield 51, 3) := by decide +kernel
theorem dX3_two_91 : decode cX3_two 91 = .ok (.iload 5, 2) := by decide +kernel
theorem dX3_two_93 : decode cX3_two 93 = .ok (.iaload, 1) := by decide +kernel
theorem dX3_two_94 : decode cX3_two 94 = .ok (.aload_n 0, 1) := by decide +kernel
theorem dX3_two_95 : decode cX3_two 95 = .ok (.getfield 51, 3) := by decide +kernel
theorem dX3_two_98 : decode cX3_two 98 = .ok (.iload 5, 2) := by decide +kernel
theorem dX3_two_100 : decode cX3_two 100 = .ok (.iconst 2, 1) := by decide +kernel
theorem dX3_two_101 : decode cX3_two 101 = .ok (.ixor, 1) := by decide +kernel
theorem dX3_two_102 : decode cX3_two 102 = .ok (.iaload, 1) := by decide +kernel
theorem dX3_two_103 : decode cX3_two 103 = .ok (.if_icmp .lt 35, 3) := by decide +kernel
theorem dX3_two_106 : decode cX3_two 106 = .ok (.aload_n 0, 1) := by decide +kernel
theorem dX3_two_107 : decode cX3_two 107 = .ok (.getfield 54, 3) := by decide +kernel
theorem dX3_two_110 : decode cX3_two 110 = .ok (.iload 5, 2) := by decide +kernel
theorem dX3_two_112 : decode cX3_two 112 = .ok (.iaload, 1) := by decide +kernel
theorem dX3_two_113 : decode cX3_two 113 = .ok (.aload_n 0, 1) := by decide +kernel
theorem dX3_two_114 : decode cX3_two 114 = .ok (.getfield 54, 3) := by decide +kernel
theorem dX3_two_117 : decode cX3_two 117 = .ok (.iload 5, 2) := by decide +kernel
theorem dX3_two_119 : decode cX3_two 119 = .ok (.iconst 1, 1) := by decide +kernel
theorem dX3_two_120 : decode cX3_two 120 = .ok (.ixor, 1) := by decide +kernel
theorem dX3_two_121 : decode cX3_two 121 = .ok (.iaload, 1) := by decide +kernel
theorem dX3_two_122 : decode cX3_two 122 = .ok (.if_icmp .lt 16, 3) := by decide +kernel
theorem dX3_two_125 : decode cX3_two 125 = .ok (.bipush 10, 2) := by decide +kernel
theorem dX3_two_127 : decode cX3_two 127 = .ok (.iload 5, 2) := by decide +kernel
theorem dX3_two_129 : decode cX3_two 129 = .ok (.iconst 2, 1) := by decide +kernel
theorem dX3_two_130 : decode cX3_two 130 = .ok (.idiv, 1) := by decide +kernel
theorem dX3_two_131 : decode cX3_two 131 = .ok (.imul, 1) := by decide +kernel
theorem dX3_two_132 : decode cX3_two 132 = .ok (.iload 5, 2) := by decide +kernel
theorem dX3_two_134 : decode cX3_two 134 = .ok (.iconst 2, 1) := by decide +kernel
theorem dX3_two_135 : decode cX3_two 135 = .ok (.irem, 1) := by decide +kernel
theorem dX3_two_136 : decode cX3_two 136 = .ok (.iadd, 1) := by decide +kernel
theorem dX3_two_137 : decode cX3_two 137 = .ok (.ireturn, 1) := by decide +kernel
theorem dX3_two_138 : decode cX3_two 138 = .ok (.iinc 5 1, 3) := by decide +kernel
theorem dX3_two_141 : decode cX3_two 141 = .ok (.goto (-60), 3) := by decide +kernel
theorem dX3_two_144 : decode cX3_two 144 = .ok (.bipush (-9), 2) := by decide +kernel
theorem dX3_two_146 : decode cX3_two 146 = .ok (.ireturn, 1) := by decide +kernel
set_option maxRecDepth 20000 in
theorem ggX3_thinkOut_X2_become : GoodIn wsX3_thinkOut wsX2_become := goodIn_r _ [9, 10, 11, 12, 13, 14, 15, 16, 17, 18, 19, 20, 21, 22, 23, 91, 92, 93, 94, 95, 96, 97, 98, 99, 100] (by decide +kernel) (by decide +kernel)
set_option maxRecDepth 20000 in
theorem gX3_thinkOut_X2_become : GoodIn wsX3_thinkOut (wsV RX3 68 RX2 yX2_become wsX2_become) := goodIn_app (goodIn_of _ (by decide +kernel)) ggX3_thinkOut_X2_become
set_option maxRecDepth 20000 in
theorem ggX3_thinkOut_X2_breakLeastOf : GoodIn wsX3_thinkOut wsX2_breakLeastOf := goodIn_r _ [27, 22, 18, 20, 28, 29, 30, 8, 31, 91, 92, 93, 94, 95, 96, 97, 98, 99, 100] (by decide +kernel) (by decide +kernel)
set_option maxRecDepth 20000 in
theorem gX3_thinkOut_X2_breakLeastOf : GoodIn wsX3_thinkOut (wsV RX3 233 RX2 yX2_breakLeastOf wsX2_breakLeastOf) := goodIn_app (goodIn_of _ (by decide +kernel)) ggX3_thinkOut_X2_breakLeastOf
set_option maxRecDepth 20000 in
theorem ggX3_thinkOut_X2_pass : GoodIn wsX3_thinkOut wsX2_pass := goodIn_r _ [35, 23, 21, 36, 37, 38, 8, 39, 22, 28, 29, 30, 31, 20, 40, 41, 42, 43, 16, 17, 44, 45, 46, 47, 19, 48, 49, 50, 51, 52, 53, 54, 55, 56, 57, 58, 59, 10, 60, 61, 62, 63, 64, 65, 66, 67, 18, 68, 69, 70, 71, 72, 73, 74, 75, 15, 91, 92, 93, 94, 95, 96, 97, 98, 99, 100] (by decide +kernel) (by decide +kernel)
set_option maxRecDepth 20000 in
theorem gX3_thinkOut_X2_pass : GoodIn wsX3_thinkOut (wsV RX3 151 RX2 yX2_pass wsX2_pass) := goodIn_app (goodIn_of _ (by decide +kernel)) ggX3_thinkOut_X2_pass
set_option maxRecDepth 20000 in
theorem ggX3_thinkOut_X2_wholeOf : GoodIn wsX3_thinkOut wsX2_wholeOf := goodIn_r _ [79, 22, 18, 28, 29, 30, 8, 31, 20, 91, 92, 93, 94, 95, 96, 97, 98, 99, 100] (by decide +kernel) (by decide +kernel)
set_option maxRecDepth 20000 in
theorem gX3_thinkOut_X2_wholeOf : GoodIn wsX3_thinkOut (wsV RX3 236 RX2 yX2_wholeOf wsX2_wholeOf) := goodIn_app (goodIn_of _ (by decide +kernel)) ggX3_thinkOut_X2_wholeOf
theorem dX3_thinkOut_0 : decode cX3_thinkOut 0 = .ok (.aload_n 0, 1) := by decide +kernel
theorem dX3_thinkOut_1 : decode cX3_thinkOut 1 = .ok (.getfield 16, 3) := by decide +kernel
theorem dX3_thinkOut_4 : decode cX3_thinkOut 4 = .ok (.aload_n 0, 1) := by decide +kernel
theorem dX3_thinkOut_5 : decode cX3_thinkOut 5 = .ok (.getfield 10, 3) := by decide +kernel
theorem dX3_thinkOut_8 : decode cX3_thinkOut 8 = .ok (.invokevirtual 68, 3) := by decide +kernel
theorem dX3_thinkOut_11 : decode cX3_thinkOut 11 = .ok (.iload 4, 2) := by decide +kernel
theorem dX3_thinkOut_13 : decode cX3_thinkOut 13 = .ok (.iconst 2, 1) := by decide +kernel
theorem dX3_thinkOut_14 : decode cX3_thinkOut 14 = .ok (.iand, 1) := by decide +kernel
theorem dX3_thinkOut_15 : decode cX3_thinkOut 15 = .ok (.ifCond .eq 12, 3) := by decide +kernel
theorem dX3_thinkOut_18 : decode cX3_thinkOut 18 = .ok (.aload_n 0, 1) := by decide +kernel
theorem dX3_thinkOut_19 : decode cX3_thinkOut 19 = .ok (.getfield 16, 3) := by decide +kernel
theorem dX3_thinkOut_22 : decode cX3_thinkOut 22 = .ok (.iload_n 2, 1) := by decide +kernel
theorem dX3_thinkOut_23 : decode cX3_thinkOut 23 = .ok (.iload_n 1, 1) := by decide +kernel
theorem dX3_thinkOut_24 : decode cX3_thinkOut 24 = .ok (.invokevirtual 233, 3) := by decide +kernel
theorem dX3_thinkOut_27 : decode cX3_thinkOut 27 = .ok (.iload 4, 2) := by decide +kernel
theorem dX3_thinkOut_29 : decode cX3_thinkOut 29 = .ok (.iconst 1, 1) := by decide +kernel
theorem dX3_thinkOut_30 : decode cX3_thinkOut 30 = .ok (.iand, 1) := by decide +kernel
theorem dX3_thinkOut_31 : decode cX3_thinkOut 31 = .ok (.ifCond .eq 12, 3) := by decide +kernel
theorem dX3_thinkOut_34 : decode cX3_thinkOut 34 = .ok (.aload_n 0, 1) := by decide +kernel
theorem dX3_thinkOut_35 : decode cX3_thinkOut 35 = .ok (.getfield 16, 3) := by decide +kernel
theorem dX3_thinkOut_38 : decode cX3_thinkOut 38 = .ok (.iload_n 1, 1) := by decide +kernel
theorem dX3_thinkOut_39 : decode cX3_thinkOut 39 = .ok (.iload_n 2, 1) := by decide +kernel
theorem dX3_thinkOut_40 : decode cX3_thinkOut 40 = .ok (.invokevirtual 233, 3) := by decide +kernel
theorem dX3_thinkOut_43 : decode cX3_thinkOut 43 = .ok (.aload_n 0, 1) := by decide +kernel
theorem dX3_thinkOut_44 : decode cX3_thinkOut 44 = .ok (.getfield 16, 3) := by decide +kernel
theorem dX3_thinkOut_47 : decode cX3_thinkOut 47 = .ok (.iload_n 3, 1) := by decide +kernel
theorem dX3_thinkOut_48 : decode cX3_thinkOut 48 = .ok (.iconst 1, 1) := by decide +kernel
theorem dX3_thinkOut_49 : decode cX3_thinkOut 49 = .ok (.bipush (-9), 2) := by decide +kernel
theorem dX3_thinkOut_51 : decode cX3_thinkOut 51 = .ok (.invokevirtual 151, 3) := by decide +kernel
theorem dX3_thinkOut_54 : decode cX3_thinkOut 54 = .ok (.aload_n 0, 1) := by decide +kernel
theorem dX3_thinkOut_55 : decode cX3_thinkOut 55 = .ok (.getfield 51, 3) := by decide +kernel
theorem dX3_thinkOut_58 : decode cX3_thinkOut 58 = .ok (.iload 4, 2) := by decide +kernel
theorem dX3_thinkOut_60 : decode cX3_thinkOut 60 = .ok (.aload_n 0, 1) := by decide +kernel
theorem dX3_thinkOut_61 : decode cX3_thinkOut 61 = .ok (.getfield 16, 3) := by decide +kernel
theorem dX3_thinkOut_64 : decode cX3_thinkOut 64 = .ok (.iload_n 1, 1) := by decide +kernel
theorem dX3_thinkOut_65 : decode cX3_thinkOut 65 = .ok (.invokevirtual 236, 3) := by decide +kernel
theorem dX3_thinkOut_68 : decode cX3_thinkOut 68 = .ok (.iastore, 1) := by decide +kernel
theorem dX3_thinkOut_69 : decode cX3_thinkOut 69 = .ok (.aload_n 0, 1) := by decide +kernel
theorem dX3_thinkOut_70 : decode cX3_thinkOut 70 = .ok (.getfield 54, 3) := by decide +kernel
theorem dX3_thinkOut_73 : decode cX3_thinkOut 73 = .ok (.iload 4, 2) := by decide +kernel
theorem dX3_thinkOut_75 : decode cX3_thinkOut 75 = .ok (.aload_n 0, 1) := by decide +kernel
theorem dX3_thinkOut_76 : decode cX3_thinkOut 76 = .ok (.getfield 16, 3) := by decide +kernel
theorem dX3_thinkOut_79 : decode cX3_thinkOut 79 = .ok (.iload_n 2, 1) := by decide +kernel
theorem dX3_thinkOut_80 : decode cX3_thinkOut 80 = .ok (.invokevirtual 236, 3) := by decide +kernel
theorem dX3_thinkOut_83 : decode cX3_thinkOut 83 = .ok (.iastore, 1) := by decide +kernel
theorem dX3_thinkOut_84 : decode cX3_thinkOut 84 = .ok (.return_, 1) := by decide +kernel
set_option maxRecDepth 20000 in
theorem ggX3_storm_X2_isThing : GoodIn wsX3_storm wsX2_isThing := goodIn_r _ [8, 9, 100, 101, 102, 103, 104, 105, 106, 107, 108, 109] (by decide +kernel) (by decide +kernel)
set_option maxRecDepth 20000 in
theorem gX3_storm_X2_isThing : GoodIn wsX3_storm (wsV RX3 99 RX2 yX2_isThing wsX2_isThing) := goodIn_app (goodIn_of _ (by decide +kernel)) ggX3_storm_X2_isThing
set_option maxRecDepth 20000 in
theorem ggX3_storm_X3_refuse : GoodIn wsX3_storm wsX3_refuse := goodIn_r _ [14, 15, 89, 90, 91, 92, 93, 94, 95, 96, 97, 98, 99] (by decide +kernel) (by decide +kernel)
set_option maxRecDepth 20000 in
theorem gX3_storm_X3_refuse : GoodIn wsX3_storm (wsV RX3 57 RX3 yX3_refuse wsX3_refuse) := goodIn_app (goodIn_of _ (by decide +kernel)) ggX3_storm_X3_refuse
set_option maxRecDepth 20000 in
theorem ggX3_storm_X3_weather : GoodIn wsX3_storm wsX3_weather := goodIn_r _ [19, 3, 1, 20, 21, 22, 7, 23, 24, 25, 26, 27, 28, 29, 30, 31, 32, 33, 34, 35, 9, 36, 37, 38, 39, 40, 41, 42, 43, 44, 45, 46, 47, 48, 49, 50, 51, 52, 53, 54, 55, 56, 57, 58, 59, 60, 61, 62, 63, 64, 65, 66, 67, 68, 69, 70, 71, 72, 73, 74, 75, 76, 77, 78, 79, 80, 81, 82, 83, 84, 89, 90, 91, 92, 93, 94, 95, 96, 97, 98, 99, 100, 101, 102, 103, 104, 105, 106, 107, 108, 109] (by decide +kernel) (by decide +kernel)
set_option maxRecDepth 20000 in
theorem gX3_storm_X3_weather : GoodIn wsX3_storm (wsV RX3 241 RX3 yX3_weather wsX3_weather) := goodIn_app (goodIn_of _ (by decide +kernel)) ggX3_storm_X3_weather
set_option maxRecDepth 20000 in
theorem ggX3_storm_X2_isWhole : GoodIn wsX3_storm wsX2_isWhole := goodIn_r _ [48, 34, 100, 101, 102, 103, 104, 105, 106, 107, 108, 109] (by decide +kernel) (by decide +kernel)
set_option maxRecDepth 20000 in
theorem gX3_storm_X2_isWhole : GoodIn wsX3_storm (wsV RX3 127 RX2 yX2_isWhole wsX2_isWhole) := goodIn_app (goodIn_of _ (by decide +kernel)) ggX3_storm_X2_isWhole
set_option maxRecDepth 20000 in
theorem ggX3_storm_X3_leastTerms : GoodIn wsX3_storm wsX3_leastTerms := goodIn_r _ [88] (by decide +kernel) (by decide +kernel)
set_option maxRecDepth 20000 in
theorem gX3_storm_X3_leastTerms : GoodIn wsX3_storm (va_wsS RX3 245 yX3_leastTerms wsX3_leastTerms) := goodIn_app (goodIn_of _ (by decide +kernel)) ggX3_storm_X3_leastTerms
theorem dX3_storm_0 : decode cX3_storm 0 = .ok (.aload_n 0, 1) := by decide +kernel
theorem dX3_storm_1 : decode cX3_storm 1 = .ok (.getfield 10, 3) := by decide +kernel
theorem dX3_storm_4 : decode cX3_storm 4 = .ok (.iload_n 1, 1) := by decide +kernel
theorem dX3_storm_5 : decode cX3_storm 5 = .ok (.invokevirtual 99, 3) := by decide +kernel
theorem dX3_storm_8 : decode cX3_storm 8 = .ok (.ifCond .ne 14, 3) := by decide +kernel
theorem dX3_storm_11 : decode cX3_storm 11 = .ok (.ldc2_w 239, 3) := by decide +kernel
theorem dX3_storm_14 : decode cX3_storm 14 = .ok (.aload_n 0, 1) := by decide +kernel
theorem dX3_storm_15 : decode cX3_storm 15 = .ok (.iconst (-1), 1) := by decide +kernel
theorem dX3_storm_16 : decode cX3_storm 16 = .ok (.invokevirtual 57, 3) := by decide +kernel
theorem dX3_storm_19 : decode cX3_storm 19 = .ok (.i2l, 1) := by decide +kernel
theorem dX3_storm_20 : decode cX3_storm 20 = .ok (.lsub, 1) := by decide +kernel
theorem dX3_storm_21 : decode cX3_storm 21 = .ok (.lreturn, 1) := by decide +kernel
theorem dX3_storm_22 : decode cX3_storm 22 = .ok (.iload_n 2, 1) := by decide +kernel
theorem dX3_storm_23 : decode cX3_storm 23 = .ok (.ifCond .lt 8, 3) := by decide +kernel
theorem dX3_storm_26 : decode cX3_storm 26 = .ok (.iload_n 3, 1) := by decide +kernel
theorem dX3_storm_27 : decode cX3_storm 27 = .ok (.iconst 2, 1) := by decide +kernel
theorem dX3_storm_28 : decode cX3_storm 28 = .ok (.if_icmp .ge 15, 3) := by decide +kernel
theorem dX3_storm_31 : decode cX3_storm 31 = .ok (.ldc2_w 239, 3) := by decide +kernel
theorem dX3_storm_34 : decode cX3_storm 34 = .ok (.aload_n 0, 1) := by decide +kernel
theorem dX3_storm_35 : decode cX3_storm 35 = .ok (.bipush (-4), 2) := by decide +kernel
theorem dX3_storm_37 : decode cX3_storm 37 = .ok (.invokevirtual 57, 3) := by decide +kernel
theorem dX3_storm_40 : decode cX3_storm 40 = .ok (.i2l, 1) := by decide +kernel
theorem dX3_storm_41 : decode cX3_storm 41 = .ok (.lsub, 1) := by decide +kernel
theorem dX3_storm_42 : decode cX3_storm 42 = .ok (.lreturn, 1) := by decide +kernel
theorem dX3_storm_43 : decode cX3_storm 43 = .ok (.iload_n 2, 1) := by decide +kernel
theorem dX3_storm_44 : decode cX3_storm 44 = .ok (.bipush 7, 2) := by decide +kernel
theorem dX3_storm_46 : decode cX3_storm 46 = .ok (.if_icmp .gt 9, 3) := by decide +kernel
theorem dX3_storm_49 : decode cX3_storm 49 = .ok (.iload_n 3, 1) := by decide +kernel
theorem dX3_storm_50 : decode cX3_storm 50 = .ok (.bipush 20, 2) := by decide +kernel
theorem dX3_storm_52 : decode cX3_storm 52 = .ok (.if_icmp .le 15, 3) := by decide +kernel
theorem dX3_storm_55 : decode cX3_storm 55 = .ok (.ldc2_w 239, 3) := by decide +kernel
theorem dX3_storm_58 : decode cX3_storm 58 = .ok (.aload_n 0, 1) := by decide +kernel
theorem dX3_storm_59 : decode cX3_storm 59 = .ok (.bipush (-6), 2) := by decide +kernel
theorem dX3_storm_61 : decode cX3_storm 61 = .ok (.invokevirtual 57, 3) := by decide +kernel
theorem dX3_storm_64 : decode cX3_storm 64 = .ok (.i2l, 1) := by decide +kernel
theorem dX3_storm_65 : decode cX3_storm 65 = .ok (.lsub, 1) := by decide +kernel
theorem dX3_storm_66 : decode cX3_storm 66 = .ok (.lreturn, 1) := by decide +kernel
theorem dX3_storm_67 : decode cX3_storm 67 = .ok (.iload 4, 2) := by decide +kernel
theorem dX3_storm_69 : decode cX3_storm 69 = .ok (.ifCond .lt 9, 3) := by decide +kernel
theorem dX3_storm_72 : decode cX3_storm 72 = .ok (.iload 4, 2) := by decide +kernel
theorem dX3_storm_74 : decode cX3_storm 74 = .ok (.iconst 1, 1) := by decide +kernel
theorem dX3_storm_75 : decode cX3_storm 75 = .ok (.if_icmp .le 15, 3) := by decide +kernel
theorem dX3_storm_78 : decode cX3_storm 78 = .ok (.ldc2_w 239, 3) := by decide +kernel
theorem dX3_storm_81 : decode cX3_storm 81 = .ok (.aload_n 0, 1) := by decide +kernel
theorem dX3_storm_82 : decode cX3_storm 82 = .ok (.bipush (-2), 2) := by decide +kernel
theorem dX3_storm_84 : decode cX3_storm 84 = .ok (.invokevirtual 57, 3) := by decide +kernel
theorem dX3_storm_87 : decode cX3_storm 87 = .ok (.i2l, 1) := by decide +kernel
theorem dX3_storm_88 : decode cX3_storm 88 = .ok (.lsub, 1) := by decide +kernel
theorem dX3_storm_89 : decode cX3_storm 89 = .ok (.lreturn, 1) := by decide +kernel
theorem dX3_storm_90 : decode cX3_storm 90 = .ok (.lconst 0, 1) := by decide +kernel
theorem dX3_storm_91 : decode cX3_storm 91 = .ok (.lstore 5, 2) := by decide +kernel
theorem dX3_storm_93 : decode cX3_storm 93 = .ok (.iconst 0, 1) := by decide +kernel
theorem dX3_storm_94 : decode cX3_storm 94 = .ok (.istore 7, 2) := by decide +kernel
theorem dX3_storm_96 : decode cX3_storm 96 = .ok (.iload 7, 2) := by decide +kernel
theorem dX3_storm_98 : decode cX3_storm 98 = .ok (.iconst 1, 1) := by decide +kernel
theorem dX3_storm_99 : decode cX3_storm 99 = .ok (.iload_n 2, 1) := by decide +kernel
theorem dX3_storm_100 : decode cX3_storm 100 = .ok (.ishl, 1) := by decide +kernel
theorem dX3_storm_101 : decode cX3_storm 101 = .ok (.if_icmp .ge 41, 3) := by decide +kernel
theorem dX3_storm_104 : decode cX3_storm 104 = .ok (.aload_n 0, 1) := by decide +kernel
theorem dX3_storm_105 : decode cX3_storm 105 = .ok (.iload_n 2, 1) := by decide +kernel
theorem dX3_storm_106 : decode cX3_storm 106 = .ok (.iload_n 3, 1) := by decide +kernel
theorem dX3_storm_107 : decode cX3_storm 107 = .ok (.iload 7, 2) := by decide +kernel
theorem dX3_storm_109 : decode cX3_storm 109 = .ok (.invokevirtual 241, 3) := by decide +kernel
theorem dX3_storm_112 : decode cX3_storm 112 = .ok (.lstore 8, 2) := by decide +kernel
theorem dX3_storm_114 : decode cX3_storm 114 = .ok (.lload 5, 2) := by decide +kernel
theorem dX3_storm_116 : decode cX3_storm 116 = .ok (.aload_n 0, 1) := by decide +kernel
theorem dX3_storm_117 : decode cX3_storm 117 = .ok (.getfield 16, 3) := by decide +kernel
theorem dX3_storm_120 : decode cX3_storm 120 = .ok (.iload_n 1, 1) := by decide +kernel
theorem dX3_storm_121 : decode cX3_storm 121 = .ok (.invokevirtual 127, 3) := by decide +kernel
theorem dX3_storm_124 : decode cX3_storm 124 = .ok (.ifCond .eq 8, 3) := by decide +kernel
theorem dX3_storm_127 : decode cX3_storm 127 = .ok (.lload 8, 2) := by decide +kernel
theorem dX3_storm_129 : decode cX3_storm 129 = .ok (.goto 4, 3) := by decide +kernel
theorem dX3_storm_132 : decode cX3_storm 132 = .ok (.lconst 0, 1) := by decide +kernel
theorem dX3_storm_133 : decode cX3_storm 133 = .ok (.ladd, 1) := by decide +kernel
theorem dX3_storm_134 : decode cX3_storm 134 = .ok (.lstore 5, 2) := by decide +kernel
theorem dX3_storm_136 : decode cX3_storm 136 = .ok (.iinc 7 1, 3) := by decide +kernel
theorem dX3_storm_139 : decode cX3_storm 139 = .ok (.goto (-43), 3) := by decide +kernel
theorem dX3_storm_142 : decode cX3_storm 142 = .ok (.lconst 1, 1) := by decide +kernel
theorem dX3_storm_143 : decode cX3_storm 143 = .ok (.lstore 7, 2) := by decide +kernel
theorem dX3_storm_145 : decode cX3_storm 145 = .ok (.iconst 0, 1) := by decide +kernel
theorem dX3_storm_146 : decode cX3_storm 146 = .ok (.istore 9, 2) := by decide +kernel
theorem dX3_storm_148 : decode cX3_storm 148 = .ok (.iload 9, 2) := by decide +kernel
theorem dX3_storm_150 : decode cX3_storm 150 = .ok (.iload_n 2, 1) := by decide +kernel
theorem dX3_storm_151 : decode cX3_storm 151 = .ok (.if_icmp .ge 16, 3) := by decide +kernel
theorem dX3_storm_154 : decode cX3_storm 154 = .ok (.lload 7, 2) := by decide +kernel
theorem dX3_storm_156 : decode cX3_storm 156 = .ok (.iload_n 3, 1) := by decide +kernel
theorem dX3_storm_157 : decode cX3_storm 157 = .ok (.i2l, 1) := by decide +kernel
theorem dX3_storm_158 : decode cX3_storm 158 = .ok (.lmul, 1) := by decide +kernel
theorem dX3_storm_159 : decode cX3_storm 159 = .ok (.lstore 7, 2) := by decide +kernel
theorem dX3_storm_161 : decode cX3_storm 161 = .ok (.iinc 9 1, 3) := by decide +kernel
theorem dX3_storm_164 : decode cX3_storm 164 = .ok (.goto (-16), 3) := by decide +kernel
theorem dX3_storm_167 : decode cX3_storm 167 = .ok (.lload 5, 2) := by decide +kernel
theorem dX3_storm_169 : decode cX3_storm 169 = .ok (.lload 7, 2) := by decide +kernel
theorem dX3_storm_171 : decode cX3_storm 171 = .ok (.iload 4, 2) := by decide +kernel
theorem dX3_storm_173 : decode cX3_storm 173 = .ok (.invokestatic 245, 3) := by decide +kernel
theorem dX3_storm_176 : decode cX3_storm 176 = .ok (.lreturn, 1) := by decide +kernel
set_option maxRecDepth 20000 in
theorem ggX3_weather_X2_become : GoodIn wsX3_weather wsX2_become := goodIn_r _ [7, 8, 9, 10, 11, 12, 13, 14, 15, 16, 17, 18, 19, 20, 21, 81, 82, 83, 84, 85, 86, 87, 88, 89, 90] (by decide +kernel) (by decide +kernel)
set_option maxRecDepth 20000 in
theorem gX3_weather_X2_become : GoodIn wsX3_weather (wsV RX3 68 RX2 yX2_become wsX2_become) := goodIn_app (goodIn_of _ (by decide +kernel)) ggX3_weather_X2_become
set_option maxRecDepth 20000 in
theorem ggX3_weather_X2_pass : GoodIn wsX3_weather wsX2_pass := goodIn_r _ [25, 21, 19, 26, 27, 28, 6, 29, 20, 30, 31, 32, 33, 18, 34, 35, 36, 37, 14, 15, 38, 39, 40, 41, 17, 42, 43, 44, 45, 46, 47, 48, 49, 50, 51, 52, 53, 8, 54, 55, 56, 57, 58, 59, 60, 61, 16, 62, 63, 64, 65, 66, 67, 68, 69, 13, 81, 82, 83, 84, 85, 86, 87, 88, 89, 90] (by decide +kernel) (by decide +kernel)
set_option maxRecDepth 20000 in
theorem gX3_weather_X2_pass : GoodIn wsX3_weather (wsV RX3 151 RX2 yX2_pass wsX2_pass) := goodIn_app (goodIn_of _ (by decide +kernel)) ggX3_weather_X2_pass
theorem dX3_weather_0 : decode cX3_weather 0 = .ok (.aload_n 0, 1) := by decide +kernel
theorem dX3_weather_1 : decode cX3_weather 1 = .ok (.getfield 16, 3) := by decide +kernel
theorem dX3_weather_4 : decode cX3_weather 4 = .ok (.aload_n 0, 1) := by decide +kernel
theorem dX3_weather_5 : decode cX3_weather 5 = .ok (.getfield 10, 3) := by decide +kernel
theorem dX3_weather_8 : decode cX3_weather 8 = .ok (.invokevirtual 68, 3) := by decide +kernel
theorem dX3_weather_11 : decode cX3_weather 11 = .ok (.lconst 1, 1) := by decide +kernel
theorem dX3_weather_12 : decode cX3_weather 12 = .ok (.lstore 4, 2) := by decide +kernel
theorem dX3_weather_14 : decode cX3_weather 14 = .ok (.iconst 0, 1) := by decide +kernel
theorem dX3_weather_15 : decode cX3_weather 15 = .ok (.istore 6, 2) := by decide +kernel
theorem dX3_weather_17 : decode cX3_weather 17 = .ok (.iload 6, 2) := by decide +kernel
theorem dX3_weather_19 : decode cX3_weather 19 = .ok (.iload_n 1, 1) := by decide +kernel
theorem dX3_weather_20 : decode cX3_weather 20 = .ok (.if_icmp .ge 63, 3) := by decide +kernel
theorem dX3_weather_23 : decode cX3_weather 23 = .ok (.iload_n 3, 1) := by decide +kernel
theorem dX3_weather_24 : decode cX3_weather 24 = .ok (.iload 6, 2) := by decide +kernel
theorem dX3_weather_26 : decode cX3_weather 26 = .ok (.ishr, 1) := by decide +kernel
theorem dX3_weather_27 : decode cX3_weather 27 = .ok (.iconst 1, 1) := by decide +kernel
theorem dX3_weather_28 : decode cX3_weather 28 = .ok (.iand, 1) := by decide +kernel
theorem dX3_weather_29 : decode cX3_weather 29 = .ok (.ifCond .eq 7, 3) := by decide +kernel
theorem dX3_weather_32 : decode cX3_weather 32 = .ok (.iconst 1, 1) := by decide +kernel
theorem dX3_weather_33 : decode cX3_weather 33 = .ok (.goto 4, 3) := by decide +kernel
theorem dX3_weather_36 : decode cX3_weather 36 = .ok (.iconst 0, 1) := by decide +kernel
theorem dX3_weather_37 : decode cX3_weather 37 = .ok (.istore 7, 2) := by decide +kernel
theorem dX3_weather_39 : decode cX3_weather 39 = .ok (.aload_n 0, 1) := by decide +kernel
theorem dX3_weather_40 : decode cX3_weather 40 = .ok (.getfield 16, 3) := by decide +kernel
theorem dX3_weather_43 : decode cX3_weather 43 = .ok (.iconst 1, 1) := by decide +kernel
theorem dX3_weather_44 : decode cX3_weather 44 = .ok (.iload 7, 2) := by decide +kernel
theorem dX3_weather_46 : decode cX3_weather 46 = .ok (.ifCond .eq 7, 3) := by decide +kernel
theorem dX3_weather_49 : decode cX3_weather 49 = .ok (.iconst 2, 1) := by decide +kernel
theorem dX3_weather_50 : decode cX3_weather 50 = .ok (.goto 4, 3) := by decide +kernel
theorem dX3_weather_53 : decode cX3_weather 53 = .ok (.iconst 1, 1) := by decide +kernel
theorem dX3_weather_54 : decode cX3_weather 54 = .ok (.bipush (-9), 2) := by decide +kernel
theorem dX3_weather_56 : decode cX3_weather 56 = .ok (.invokevirtual 151, 3) := by decide +kernel
theorem dX3_weather_59 : decode cX3_weather 59 = .ok (.lload 4, 2) := by decide +kernel
theorem dX3_weather_61 : decode cX3_weather 61 = .ok (.iload 7, 2) := by decide +kernel
theorem dX3_weather_63 : decode cX3_weather 63 = .ok (.ifCond .eq 7, 3) := by decide +kernel
theorem dX3_weather_66 : decode cX3_weather 66 = .ok (.lconst 1, 1) := by decide +kernel
theorem dX3_weather_67 : decode cX3_weather 67 = .ok (.goto 7, 3) := by decide +kernel
theorem dX3_weather_70 : decode cX3_weather 70 = .ok (.iload_n 2, 1) := by decide +kernel
theorem dX3_weather_71 : decode cX3_weather 71 = .ok (.iconst 1, 1) := by decide +kernel
theorem dX3_weather_72 : decode cX3_weather 72 = .ok (.isub, 1) := by decide +kernel
theorem dX3_weather_73 : decode cX3_weather 73 = .ok (.i2l, 1) := by decide +kernel
theorem dX3_weather_74 : decode cX3_weather 74 = .ok (.lmul, 1) := by decide +kernel
theorem dX3_weather_75 : decode cX3_weather 75 = .ok (.lstore 4, 2) := by decide +kernel
theorem dX3_weather_77 : decode cX3_weather 77 = .ok (.iinc 6 1, 3) := by decide +kernel
theorem dX3_weather_80 : decode cX3_weather 80 = .ok (.goto (-63), 3) := by decide +kernel
theorem dX3_weather_83 : decode cX3_weather 83 = .ok (.lload 4, 2) := by decide +kernel
theorem dX3_weather_85 : decode cX3_weather 85 = .ok (.lreturn, 1) := by decide +kernel
set_option maxRecDepth 20000 in
theorem ggX3_mean_X3_refuse : GoodIn wsX3_mean wsX3_refuse := goodIn_r _ [11, 12, 43, 44, 45, 46, 47, 48, 49, 50, 51, 52, 53] (by decide +kernel) (by decide +kernel)
set_option maxRecDepth 20000 in
theorem gX3_mean_X3_refuse : GoodIn wsX3_mean (wsV RX3 57 RX3 yX3_refuse wsX3_refuse) := goodIn_app (goodIn_of _ (by decide +kernel)) ggX3_mean_X3_refuse
set_option maxRecDepth 20000 in
theorem ggX3_mean_X2_wearOfWhole : GoodIn wsX3_mean wsX2_wearOfWhole := goodIn_r _ [17, 18, 19, 20, 21, 22, 16, 23, 24, 54, 55, 56, 57, 58, 59, 60, 61, 62, 63] (by decide +kernel) (by decide +kernel)
set_option maxRecDepth 20000 in
theorem gX3_mean_X2_wearOfWhole : GoodIn wsX3_mean (wsV RX3 249 RX2 yX2_wearOfWhole wsX2_wearOfWhole) := goodIn_app (goodIn_of _ (by decide +kernel)) ggX3_mean_X2_wearOfWhole
set_option maxRecDepth 20000 in
theorem ggX3_mean_X2_wholeCount : GoodIn wsX3_mean wsX2_wholeCount := goodIn_r _ [28, 29, 30, 31, 16, 32, 18, 20, 21, 22, 23, 24, 33, 34, 35, 36, 37, 38, 39, 54, 55, 56, 57, 58, 59, 60, 61, 62, 63] (by decide +kernel) (by decide +kernel)
set_option maxRecDepth 20000 in
theorem gX3_mean_X2_wholeCount : GoodIn wsX3_mean (wsV RX3 130 RX2 yX2_wholeCount wsX2_wholeCount) := goodIn_app (goodIn_of _ (by decide +kernel)) ggX3_mean_X2_wholeCount
set_option maxRecDepth 20000 in
theorem ggX3_mean_X3_leastTerms : GoodIn wsX3_mean wsX3_leastTerms := goodIn_r _ [42] (by decide +kernel) (by decide +kernel)
set_option maxRecDepth 20000 in
theorem gX3_mean_X3_leastTerms : GoodIn wsX3_mean (va_wsS RX3 245 yX3_leastTerms wsX3_leastTerms) := goodIn_app (goodIn_of _ (by decide +kernel)) ggX3_mean_X3_leastTerms
theorem dX3_mean_0 : decode cX3_mean 0 = .ok (.iload_n 1, 1) := by decide +kernel
theorem dX3_mean_1 : decode cX3_mean 1 = .ok (.ifCond .lt 8, 3) := by decide +kernel
theorem dX3_mean_4 : decode cX3_mean 4 = .ok (.iload_n 1, 1) := by decide +kernel
theorem dX3_mean_5 : decode cX3_mean 5 = .ok (.iconst 1, 1) := by decide +kernel
theorem dX3_mean_6 : decode cX3_mean 6 = .ok (.if_icmp .le 15, 3) := by decide +kernel
theorem dX3_mean_9 : decode cX3_mean 9 = .ok (.ldc2_w 239, 3) := by decide +kernel
theorem dX3_mean_12 : decode cX3_mean 12 = .ok (.aload_n 0, 1) := by decide +kernel
theorem dX3_mean_13 : decode cX3_mean 13 = .ok (.bipush (-2), 2) := by decide +kernel
theorem dX3_mean_15 : decode cX3_mean 15 = .ok (.invokevirtual 57, 3) := by decide +kernel
theorem dX3_mean_18 : decode cX3_mean 18 = .ok (.i2l, 1) := by decide +kernel
theorem dX3_mean_19 : decode cX3_mean 19 = .ok (.lsub, 1) := by decide +kernel
theorem dX3_mean_20 : decode cX3_mean 20 = .ok (.lreturn, 1) := by decide +kernel
theorem dX3_mean_21 : decode cX3_mean 21 = .ok (.aload_n 0, 1) := by decide +kernel
theorem dX3_mean_22 : decode cX3_mean 22 = .ok (.getfield 10, 3) := by decide +kernel
theorem dX3_mean_25 : decode cX3_mean 25 = .ok (.invokevirtual 249, 3) := by decide +kernel
theorem dX3_mean_28 : decode cX3_mean 28 = .ok (.i2l, 1) := by decide +kernel
theorem dX3_mean_29 : decode cX3_mean 29 = .ok (.iconst 1, 1) := by decide +kernel
theorem dX3_mean_30 : decode cX3_mean 30 = .ok (.aload_n 0, 1) := by decide +kernel
theorem dX3_mean_31 : decode cX3_mean 31 = .ok (.getfield 10, 3) := by decide +kernel
theorem dX3_mean_34 : decode cX3_mean 34 = .ok (.invokevirtual 130, 3) := by decide +kernel
theorem dX3_mean_37 : decode cX3_mean 37 = .ok (.invokestatic 252, 3) := by decide +kernel
theorem dX3_mean_40 : decode cX3_mean 40 = .ok (.i2l, 1) := by decide +kernel
theorem dX3_mean_41 : decode cX3_mean 41 = .ok (.iload_n 1, 1) := by decide +kernel
theorem dX3_mean_42 : decode cX3_mean 42 = .ok (.invokestatic 245, 3) := by decide +kernel
theorem dX3_mean_45 : decode cX3_mean 45 = .ok (.lreturn, 1) := by decide +kernel
theorem dX3_leastTerms_0 : decode cX3_leastTerms 0 = .ok (.lload_n 2, 1) := by decide +kernel
theorem dX3_leastTerms_1 : decode cX3_leastTerms 1 = .ok (.lstore 5, 2) := by decide +kernel
theorem dX3_leastTerms_3 : decode cX3_leastTerms 3 = .ok (.lload_n 0, 1) := by decide +kernel
theorem dX3_leastTerms_4 : decode cX3_leastTerms 4 = .ok (.lstore 7, 2) := by decide +kernel
theorem dX3_leastTerms_6 : decode cX3_leastTerms 6 = .ok (.iconst 0, 1) := by decide +kernel
theorem dX3_leastTerms_7 : decode cX3_leastTerms 7 = .ok (.istore 9, 2) := by decide +kernel
theorem dX3_leastTerms_9 : decode cX3_leastTerms 9 = .ok (.iload 9, 2) := by decide +kernel
theorem dX3_leastTerms_11 : decode cX3_leastTerms 11 = .ok (.sipush 200, 3) := by decide +kernel
theorem dX3_leastTerms_14 : decode cX3_leastTerms 14 = .ok (.if_icmp .ge 31, 3) := by decide +kernel
theorem dX3_leastTerms_17 : decode cX3_leastTerms 17 = .ok (.lload 7, 2) := by decide +kernel
theorem dX3_leastTerms_19 : decode cX3_leastTerms 19 = .ok (.lconst 0, 1) := by decide +kernel
theorem dX3_leastTerms_20 : decode cX3_leastTerms 20 = .ok (.lcmp, 1) := by decide +kernel
theorem dX3_leastTerms_21 : decode cX3_leastTerms 21 = .ok (.ifCond .eq 24, 3) := by decide +kernel
theorem dX3_leastTerms_24 : decode cX3_leastTerms 24 = .ok (.lload 5, 2) := by decide +kernel
theorem dX3_leastTerms_26 : decode cX3_leastTerms 26 = .ok (.lload 7, 2) := by decide +kernel
theorem dX3_leastTerms_28 : decode cX3_leastTerms 28 = .ok (.lrem, 1) := by decide +kernel
theorem dX3_leastTerms_29 : decode cX3_leastTerms 29 = .ok (.lstore 10, 2) := by decide +kernel
theorem dX3_leastTerms_31 : decode cX3_leastTerms 31 = .ok (.lload 7, 2) := by decide +kernel
theorem dX3_leastTerms_33 : decode cX3_leastTerms 33 = .ok (.lstore 5, 2) := by decide +kernel
theorem dX3_leastTerms_35 : decode cX3_leastTerms 35 = .ok (.lload 10, 2) := by decide +kernel
theorem dX3_leastTerms_37 : decode cX3_leastTerms 37 = .ok (.lstore 7, 2) := by decide +kernel
theorem dX3_leastTerms_39 : decode cX3_leastTerms 39 = .ok (.iinc 9 1, 3) := by decide +kernel
theorem dX3_leastTerms_42 : decode cX3_leastTerms 42 = .ok (.goto (-33), 3) := by decide +kernel
theorem dX3_leastTerms_45 : decode cX3_leastTerms 45 = .ok (.lload 5, 2) := by decide +kernel
theorem dX3_leastTerms_47 : decode cX3_leastTerms 47 = .ok (.lconst 0, 1) := by decide +kernel
theorem dX3_leastTerms_48 : decode cX3_leastTerms 48 = .ok (.lcmp, 1) := by decide +kernel
theorem dX3_leastTerms_49 : decode cX3_leastTerms 49 = .ok (.ifCond .ne 7, 3) := by decide +kernel
theorem dX3_leastTerms_52 : decode cX3_leastTerms 52 = .ok (.iload 4, 2) := by decide +kernel
theorem dX3_leastTerms_54 : decode cX3_leastTerms 54 = .ok (.i2l, 1) := by decide +kernel
theorem dX3_leastTerms_55 : decode cX3_leastTerms 55 = .ok (.lreturn, 1) := by decide +kernel
theorem dX3_leastTerms_56 : decode cX3_leastTerms 56 = .ok (.iload 4, 2) := by decide +kernel
theorem dX3_leastTerms_58 : decode cX3_leastTerms 58 = .ok (.ifCond .ne 7, 3) := by decide +kernel
theorem dX3_leastTerms_61 : decode cX3_leastTerms 61 = .ok (.lload_n 0, 1) := by decide +kernel
theorem dX3_leastTerms_62 : decode cX3_leastTerms 62 = .ok (.goto 4, 3) := by decide +kernel
theorem dX3_leastTerms_65 : decode cX3_leastTerms 65 = .ok (.lload_n 2, 1) := by decide +kernel
theorem dX3_leastTerms_66 : decode cX3_leastTerms 66 = .ok (.lload 5, 2) := by decide +kernel
theorem dX3_leastTerms_68 : decode cX3_leastTerms 68 = .ok (.ldiv, 1) := by decide +kernel
theorem dX3_leastTerms_69 : decode cX3_leastTerms 69 = .ok (.lreturn, 1) := by decide +kernel
set_option maxRecDepth 20000 in
theorem ggX3_whatIs_X2_isThing : GoodIn wsX3_whatIs wsX2_isThing := goodIn_r _ [6, 7, 108, 109, 110, 111, 112, 113, 114, 115, 116, 117] (by decide +kernel) (by decide +kernel)
set_option maxRecDepth 20000 in
theorem gX3_whatIs_X2_isThing : GoodIn wsX3_whatIs (wsV RX3 99 RX2 yX2_isThing wsX2_isThing) := goodIn_app (goodIn_of _ (by decide +kernel)) ggX3_whatIs_X2_isThing
set_option maxRecDepth 20000 in
theorem ggX3_whatIs_X3_refuse : GoodIn wsX3_whatIs wsX3_refuse := goodIn_r _ [12, 13, 97, 98, 99, 100, 101, 102, 103, 104, 105, 106, 107] (by decide +kernel) (by decide +kernel)
set_option maxRecDepth 20000 in
theorem gX3_whatIs_X3_refuse : GoodIn wsX3_whatIs (wsV RX3 57 RX3 yX3_refuse wsX3_refuse) := goodIn_app (goodIn_of _ (by decide +kernel)) ggX3_whatIs_X3_refuse
set_option maxRecDepth 20000 in
theorem ggX3_whatIs_X3_kindsOfRow : GoodIn wsX3_whatIs wsX3_kindsOfRow := goodIn_r _ [17, 18, 1, 19, 20, 21, 22, 5, 23, 24, 25, 26, 27, 28, 29, 30, 31, 32, 33, 34, 35, 7, 36, 37, 38, 39, 11, 40, 41, 42, 43, 44, 45, 46, 47, 48, 49, 50, 51, 52, 53, 54, 55, 56, 57, 58, 59, 60, 61, 62, 63, 64, 65, 66, 67, 68, 69, 70, 71, 72, 73, 74, 75, 76, 77, 78, 79, 80, 81, 82, 83, 84, 85, 86, 87, 88, 89, 90, 91, 97, 98, 99, 100, 101, 102, 103, 104, 105, 106, 107, 108, 109, 110, 111, 112, 113, 114, 115, 116, 117] (by decide +kernel) (by decide +kernel)
set_option maxRecDepth 20000 in
theorem gX3_whatIs_X3_kindsOfRow : GoodIn wsX3_whatIs (wsV RX3 257 RX3 yX3_kindsOfRow wsX3_kindsOfRow) := goodIn_app (goodIn_of _ (by decide +kernel)) ggX3_whatIs_X3_kindsOfRow
set_option maxRecDepth 20000 in
theorem ggX3_whatIs_X3_figuresOfRow : GoodIn wsX3_whatIs wsX3_figuresOfRow := goodIn_r _ [95, 18, 1, 96, 20, 21, 22, 5, 23, 24, 25, 26, 27, 28, 29, 30, 31, 32, 33, 34, 35, 7, 36, 37, 38, 39, 11, 40, 41, 42, 43, 44, 45, 46, 47, 48, 49, 50, 51, 52, 53, 54, 55, 56, 57, 58, 59, 60, 61, 62, 63, 64, 65, 66, 67, 68, 69, 70, 71, 72, 73, 74, 75, 76, 77, 78, 79, 80, 81, 82, 83, 84, 85, 86, 87, 88, 89, 90, 91, 97, 98, 99, 100, 101, 102, 103, 104, 105, 106, 107, 108, 109, 110, 111, 112, 113, 114, 115, 116, 117] (by decide +kernel) (by decide +kernel)
set_option maxRecDepth 20000 in
theorem gX3_whatIs_X3_figuresOfRow : GoodIn wsX3_whatIs (wsV RX3 260 RX3 yX3_figuresOfRow wsX3_figuresOfRow) := goodIn_app (goodIn_of _ (by decide +kernel)) ggX3_whatIs_X3_figuresOfRow
theorem dX3_whatIs_0 : decode cX3_whatIs 0 = .ok (.aload_n 0, 1) := by decide +kernel
theorem dX3_whatIs_1 : decode cX3_whatIs 1 = .ok (.getfield 10, 3) := by decide +kernel
theorem dX3_whatIs_4 : decode cX3_whatIs 4 = .ok (.iload_n 1, 1) := by decide +kernel
theorem dX3_whatIs_5 : decode cX3_whatIs 5 = .ok (.invokevirtual 99, 3) := by decide +kernel
theorem dX3_whatIs_8 : decode cX3_whatIs 8 = .ok (.ifCond .ne 9, 3) := by decide +kernel
theorem dX3_whatIs_11 : decode cX3_whatIs 11 = .ok (.aload_n 0, 1) := by decide +kernel
theorem dX3_whatIs_12 : decode cX3_whatIs 12 = .ok (.iconst (-1), 1) := by decide +kernel
theorem dX3_whatIs_13 : decode cX3_whatIs 13 = .ok (.invokevirtual 57, 3) := by decide +kernel
theorem dX3_whatIs_16 : decode cX3_whatIs 16 = .ok (.ireturn, 1) := by decide +kernel
theorem dX3_whatIs_17 : decode cX3_whatIs 17 = .ok (.iload_n 2, 1) := by decide +kernel
theorem dX3_whatIs_18 : decode cX3_whatIs 18 = .ok (.ifCond .lt 8, 3) := by decide +kernel
theorem dX3_whatIs_21 : decode cX3_whatIs 21 = .ok (.iload_n 2, 1) := by decide +kernel
theorem dX3_whatIs_22 : decode cX3_whatIs 22 = .ok (.iconst 1, 1) := by decide +kernel
theorem dX3_whatIs_23 : decode cX3_whatIs 23 = .ok (.if_icmp .le 10, 3) := by decide +kernel
theorem dX3_whatIs_26 : decode cX3_whatIs 26 = .ok (.aload_n 0, 1) := by decide +kernel
theorem dX3_whatIs_27 : decode cX3_whatIs 27 = .ok (.bipush (-2), 2) := by decide +kernel
theorem dX3_whatIs_29 : decode cX3_whatIs 29 = .ok (.invokevirtual 57, 3) := by decide +kernel
theorem dX3_whatIs_32 : decode cX3_whatIs 32 = .ok (.ireturn, 1) := by decide +kernel
theorem dX3_whatIs_33 : decode cX3_whatIs 33 = .ok (.iload_n 2, 1) := by decide +kernel
theorem dX3_whatIs_34 : decode cX3_whatIs 34 = .ok (.ifCond .ne 11, 3) := by decide +kernel
theorem dX3_whatIs_37 : decode cX3_whatIs 37 = .ok (.aload_n 0, 1) := by decide +kernel
theorem dX3_whatIs_38 : decode cX3_whatIs 38 = .ok (.iload_n 1, 1) := by decide +kernel
theorem dX3_whatIs_39 : decode cX3_whatIs 39 = .ok (.invokevirtual 257, 3) := by decide +kernel
theorem dX3_whatIs_42 : decode cX3_whatIs 42 = .ok (.goto 8, 3) := by decide +kernel
theorem dX3_whatIs_45 : decode cX3_whatIs 45 = .ok (.aload_n 0, 1) := by decide +kernel
theorem dX3_whatIs_46 : decode cX3_whatIs 46 = .ok (.iload_n 1, 1) := by decide +kernel
theorem dX3_whatIs_47 : decode cX3_whatIs 47 = .ok (.invokevirtual 260, 3) := by decide +kernel
theorem dX3_whatIs_50 : decode cX3_whatIs 50 = .ok (.ireturn, 1) := by decide +kernel
set_option maxRecDepth 20000 in
theorem ggX3_kindsOfRow_X2_become : GoodIn wsX3_kindsOfRow wsX2_become := goodIn_r _ [8, 9, 10, 11, 12, 13, 14, 15, 16, 17, 18, 19, 20, 21, 22, 90, 91, 92, 93, 94, 95, 96, 97, 98, 99] (by decide +kernel) (by decide +kernel)
set_option maxRecDepth 20000 in
theorem gX3_kindsOfRow_X2_become : GoodIn wsX3_kindsOfRow (wsV RX3 68 RX2 yX2_become wsX2_become) := goodIn_app (goodIn_of _ (by decide +kernel)) ggX3_kindsOfRow_X2_become
set_option maxRecDepth 20000 in
theorem ggX3_kindsOfRow_X3_mindWearsAsRow : GoodIn wsX3_kindsOfRow wsX3_mindWearsAsRow := goodIn_r _ [27, 28, 1, 29, 30, 31, 32, 33, 7, 34, 22, 20, 35, 36, 37, 38, 21, 39, 40, 41, 42, 19, 43, 44, 45, 46, 15, 16, 47, 48, 49, 50, 18, 51, 52, 53, 54, 55, 56, 57, 58, 59, 60, 61, 62, 9, 63, 64, 65, 66, 67, 68, 69, 70, 17, 71, 72, 73, 74, 75, 76, 77, 78, 14, 79, 80, 81, 82, 83, 84, 85, 86, 87, 88, 89, 90, 91, 92, 93, 94, 95, 96, 97, 98, 99] (by decide +kernel) (by decide +kernel)
set_option maxRecDepth 20000 in
theorem gX3_kindsOfRow_X3_mindWearsAsRow : GoodIn wsX3_kindsOfRow (wsV RX3 263 RX3 yX3_mindWearsAsRow wsX3_mindWearsAsRow) := goodIn_app (goodIn_of _ (by decide +kernel)) ggX3_kindsOfRow_X3_mindWearsAsRow
theorem dX3_kindsOfRow_0 : decode cX3_kindsOfRow 0 = .ok (.iconst 0, 1) := by decide +kernel
theorem dX3_kindsOfRow_1 : decode cX3_kindsOfRow 1 = .ok (.istore_n 2, 1) := by decide +kernel
theorem dX3_kindsOfRow_2 : decode cX3_kindsOfRow 2 = .ok (.iconst 0, 1) := by decide +kernel
theorem dX3_kindsOfRow_3 : decode cX3_kindsOfRow 3 = .ok (.istore_n 3, 1) := by decide +kernel
theorem dX3_kindsOfRow_4 : decode cX3_kindsOfRow 4 = .ok (.iload_n 3, 1) := by decide +kernel
theorem dX3_kindsOfRow_5 : decode cX3_kindsOfRow 5 = .ok (.bipush 6, 2) := by decide +kernel
theorem dX3_kindsOfRow_7 : decode cX3_kindsOfRow 7 = .ok (.if_icmp .ge 44, 3) := by decide +kernel
theorem dX3_kindsOfRow_10 : decode cX3_kindsOfRow 10 = .ok (.aload_n 0, 1) := by decide +kernel
theorem dX3_kindsOfRow_11 : decode cX3_kindsOfRow 11 = .ok (.getfield 16, 3) := by decide +kernel
theorem dX3_kindsOfRow_14 : decode cX3_kindsOfRow 14 = .ok (.aload_n 0, 1) := by decide +kernel
theorem dX3_kindsOfRow_15 : decode cX3_kindsOfRow 15 = .ok (.getfield 10, 3) := by decide +kernel
theorem dX3_kindsOfRow_18 : decode cX3_kindsOfRow 18 = .ok (.invokevirtual 68, 3) := by decide +kernel
theorem dX3_kindsOfRow_21 : decode cX3_kindsOfRow 21 = .ok (.aload_n 0, 1) := by decide +kernel
theorem dX3_kindsOfRow_22 : decode cX3_kindsOfRow 22 = .ok (.getfield 16, 3) := by decide +kernel
theorem dX3_kindsOfRow_25 : decode cX3_kindsOfRow 25 = .ok (.getfield 102, 3) := by decide +kernel
theorem dX3_kindsOfRow_28 : decode cX3_kindsOfRow 28 = .ok (.iload_n 1, 1) := by decide +kernel
theorem dX3_kindsOfRow_29 : decode cX3_kindsOfRow 29 = .ok (.iload_n 3, 1) := by decide +kernel
theorem dX3_kindsOfRow_30 : decode cX3_kindsOfRow 30 = .ok (.iastore, 1) := by decide +kernel
theorem dX3_kindsOfRow_31 : decode cX3_kindsOfRow 31 = .ok (.aload_n 0, 1) := by decide +kernel
theorem dX3_kindsOfRow_32 : decode cX3_kindsOfRow 32 = .ok (.iload_n 1, 1) := by decide +kernel
theorem dX3_kindsOfRow_33 : decode cX3_kindsOfRow 33 = .ok (.invokevirtual 263, 3) := by decide +kernel
theorem dX3_kindsOfRow_36 : decode cX3_kindsOfRow 36 = .ok (.ifCond .eq 9, 3) := by decide +kernel
theorem dX3_kindsOfRow_39 : decode cX3_kindsOfRow 39 = .ok (.iload_n 2, 1) := by decide +kernel
theorem dX3_kindsOfRow_40 : decode cX3_kindsOfRow 40 = .ok (.iconst 1, 1) := by decide +kernel
theorem dX3_kindsOfRow_41 : decode cX3_kindsOfRow 41 = .ok (.iload_n 3, 1) := by decide +kernel
theorem dX3_kindsOfRow_42 : decode cX3_kindsOfRow 42 = .ok (.ishl, 1) := by decide +kernel
theorem dX3_kindsOfRow_43 : decode cX3_kindsOfRow 43 = .ok (.ior, 1) := by decide +kernel
theorem dX3_kindsOfRow_44 : decode cX3_kindsOfRow 44 = .ok (.istore_n 2, 1) := by decide +kernel
theorem dX3_kindsOfRow_45 : decode cX3_kindsOfRow 45 = .ok (.iinc 3 1, 3) := by decide +kernel
theorem dX3_kindsOfRow_48 : decode cX3_kindsOfRow 48 = .ok (.goto (-44), 3) := by decide +kernel
theorem dX3_kindsOfRow_51 : decode cX3_kindsOfRow 51 = .ok (.iload_n 2, 1) := by decide +kernel
theorem dX3_kindsOfRow_52 : decode cX3_kindsOfRow 52 = .ok (.ireturn, 1) := by decide +kernel
set_option maxRecDepth 20000 in
theorem ggX3_figuresOfRow_X2_become : GoodIn wsX3_figuresOfRow wsX2_become := goodIn_r _ [8, 9, 10, 11, 12, 13, 14, 15, 16, 17, 18, 19, 20, 21, 22, 90, 91, 92, 93, 94, 95, 96, 97, 98, 99] (by decide +kernel) (by decide +kernel)
set_option maxRecDepth 20000 in
theorem gX3_figuresOfRow_X2_become : GoodIn wsX3_figuresOfRow (wsV RX3 68 RX2 yX2_become wsX2_become) := goodIn_app (goodIn_of _ (by decide +kernel)) ggX3_figuresOfRow_X2_become
set_option maxRecDepth 20000 in
theorem ggX3_figuresOfRow_X3_mindWearsAsRow : GoodIn wsX3_figuresOfRow wsX3_mindWearsAsRow := goodIn_r _ [27, 28, 1, 29, 30, 31, 32, 33, 7, 34, 22, 20, 35, 36, 37, 38, 21, 39, 40, 41, 42, 19, 43, 44, 45, 46, 15, 16, 47, 48, 49, 50, 18, 51, 52, 53, 54, 55, 56, 57, 58, 59, 60, 61, 62, 9, 63, 64, 65, 66, 67, 68, 69, 70, 17, 71, 72, 73, 74, 75, 76, 77, 78, 14, 79, 80, 81, 82, 83, 84, 85, 86, 87, 88, 89, 90, 91, 92, 93, 94, 95, 96, 97, 98, 99] (by decide +kernel) (by decide +kernel)
set_option maxRecDepth 20000 in
theorem gX3_figuresOfRow_X3_mindWearsAsRow : GoodIn wsX3_figuresOfRow (wsV RX3 263 RX3 yX3_mindWearsAsRow wsX3_mindWearsAsRow) := goodIn_app (goodIn_of _ (by decide +kernel)) ggX3_figuresOfRow_X3_mindWearsAsRow
theorem dX3_figuresOfRow_0 : decode cX3_figuresOfRow 0 = .ok (.iconst 0, 1) := by decide +kernel
theorem dX3_figuresOfRow_1 : decode cX3_figuresOfRow 1 = .ok (.istore_n 2, 1) := by decide +kernel
theorem dX3_figuresOfRow_2 : decode cX3_figuresOfRow 2 = .ok (.iconst 0, 1) := by decide +kernel
theorem dX3_figuresOfRow_3 : decode cX3_figuresOfRow 3 = .ok (.istore_n 3, 1) := by decide +kernel
theorem dX3_figuresOfRow_4 : decode cX3_figuresOfRow 4 = .ok (.iload_n 3, 1) := by decide +kernel
theorem dX3_figuresOfRow_5 : decode cX3_figuresOfRow 5 = .ok (.bipush 9, 2) := by decide +kernel
theorem dX3_figuresOfRow_7 : decode cX3_figuresOfRow 7 = .ok (.if_icmp .gt 44, 3) := by decide +kernel
theorem dX3_figuresOfRow_10 : decode cX3_figuresOfRow 10 = .ok (.aload_n 0, 1) := by decide +kernel
theorem dX3_figuresOfRow_11 : decode cX3_figuresOfRow 11 = .ok (.getfield 16, 3) := by decide +kernel
theorem dX3_figuresOfRow_14 : decode cX3_figuresOfRow 14 = .ok (.aload_n 0, 1) := by decide +kernel
theorem dX3_figuresOfRow_15 : decode cX3_figuresOfRow 15 = .ok (.getfield 10, 3) := by decide +kernel
theorem dX3_figuresOfRow_18 : decode cX3_figuresOfRow 18 = .ok (.invokevirtual 68, 3) := by decide +kernel
theorem dX3_figuresOfRow_21 : decode cX3_figuresOfRow 21 = .ok (.aload_n 0, 1) := by decide +kernel
theorem dX3_figuresOfRow_22 : decode cX3_figuresOfRow 22 = .ok (.getfield 16, 3) := by decide +kernel
theorem dX3_figuresOfRow_25 : decode cX3_figuresOfRow 25 = .ok (.getfield 105, 3) := by decide +kernel
theorem dX3_figuresOfRow_28 : decode cX3_figuresOfRow 28 = .ok (.iload_n 1, 1) := by decide +kernel
theorem dX3_figuresOfRow_29 : decode cX3_figuresOfRow 29 = .ok (.iload_n 3, 1) := by decide +kernel
theorem dX3_figuresOfRow_30 : decode cX3_figuresOfRow 30 = .ok (.iastore, 1) := by decide +kernel
theorem dX3_figuresOfRow_31 : decode cX3_figuresOfRow 31 = .ok (.aload_n 0, 1) := by decide +kernel
theorem dX3_figuresOfRow_32 : decode cX3_figuresOfRow 32 = .ok (.iload_n 1, 1) := by decide +kernel
theorem dX3_figuresOfRow_33 : decode cX3_figuresOfRow 33 = .ok (.invokevirtual 263, 3) := by decide +kernel
theorem dX3_figuresOfRow_36 : decode cX3_figuresOfRow 36 = .ok (.ifCond .eq 9, 3) := by decide +kernel
theorem dX3_figuresOfRow_39 : decode cX3_figuresOfRow 39 = .ok (.iload_n 2, 1) := by decide +kernel
theorem dX3_figuresOfRow_40 : decode cX3_figuresOfRow 40 = .ok (.iconst 1, 1) := by decide +kernel
theorem dX3_figuresOfRow_41 : decode cX3_figuresOfRow 41 = .ok (.iload_n 3, 1) := by decide +kernel
theorem dX3_figuresOfRow_42 : decode cX3_figuresOfRow 42 = .ok (.ishl, 1) := by decide +kernel
theorem dX3_figuresOfRow_43 : decode cX3_figuresOfRow 43 = .ok (.ior, 1) := by decide +kernel
theorem dX3_figuresOfRow_44 : decode cX3_figuresOfRow 44 = .ok (.istore_n 2, 1) := by decide +kernel
theorem dX3_figuresOfRow_45 : decode cX3_figuresOfRow 45 = .ok (.iinc 3 1, 3) := by decide +kernel
theorem dX3_figuresOfRow_48 : decode cX3_figuresOfRow 48 = .ok (.goto (-44), 3) := by decide +kernel
theorem dX3_figuresOfRow_51 : decode cX3_figuresOfRow 51 = .ok (.iload_n 2, 1) := by decide +kernel
theorem dX3_figuresOfRow_52 : decode cX3_figuresOfRow 52 = .ok (.ireturn, 1) := by decide +kernel
set_option maxRecDepth 20000 in
theorem ggX3_mindWearsAsRow_X2_pass : GoodIn wsX3_mindWearsAsRow wsX2_pass := goodIn_r _ [9, 10, 11, 12, 13, 14, 8, 15, 16, 17, 18, 19, 20, 21, 22, 23, 24, 25, 26, 27, 28, 29, 30, 31, 32, 33, 34, 35, 36, 37, 38, 39, 40, 41, 42, 43, 44, 45, 46, 47, 48, 49, 50, 51, 52, 53, 54, 55, 56, 57, 58, 59, 60, 61, 62, 63, 75, 76, 77, 78, 79, 80, 81, 82, 83, 84] (by decide +kernel) (by decide +kernel)
set_option maxRecDepth 20000 in
theorem gX3_mindWearsAsRow_X2_pass : GoodIn wsX3_mindWearsAsRow (wsV RX3 151 RX2 yX2_pass wsX2_pass) := goodIn_app (goodIn_of _ (by decide +kernel)) ggX3_mindWearsAsRow_X2_pass
theorem dX3_mindWearsAsRow_0 : decode cX3_mindWearsAsRow 0 = .ok (.iconst 0, 1) := by decide +kernel
theorem dX3_mindWearsAsRow_1 : decode cX3_mindWearsAsRow 1 = .ok (.istore_n 2, 1) := by decide +kernel
theorem dX3_mindWearsAsRow_2 : decode cX3_mindWearsAsRow 2 = .ok (.iload_n 2, 1) := by decide +kernel
theorem dX3_mindWearsAsRow_3 : decode cX3_mindWearsAsRow 3 = .ok (.aload_n 0, 1) := by decide +kernel
theorem dX3_mindWearsAsRow_4 : decode cX3_mindWearsAsRow 4 = .ok (.getfield 37, 3) := by decide +kernel
theorem dX3_mindWearsAsRow_7 : decode cX3_mindWearsAsRow 7 = .ok (.if_icmp .ge 40, 3) := by decide +kernel
theorem dX3_mindWearsAsRow_10 : decode cX3_mindWearsAsRow 10 = .ok (.aload_n 0, 1) := by decide +kernel
theorem dX3_mindWearsAsRow_11 : decode cX3_mindWearsAsRow 11 = .ok (.getfield 16, 3) := by decide +kernel
theorem dX3_mindWearsAsRow_14 : decode cX3_mindWearsAsRow 14 = .ok (.getfield 111, 3) := by decide +kernel
theorem dX3_mindWearsAsRow_17 : decode cX3_mindWearsAsRow 17 = .ok (.iload_n 1, 1) := by decide +kernel
theorem dX3_mindWearsAsRow_18 : decode cX3_mindWearsAsRow 18 = .ok (.iaload, 1) := by decide +kernel
theorem dX3_mindWearsAsRow_19 : decode cX3_mindWearsAsRow 19 = .ok (.aload_n 0, 1) := by decide +kernel
theorem dX3_mindWearsAsRow_20 : decode cX3_mindWearsAsRow 20 = .ok (.getfield 33, 3) := by decide +kernel
theorem dX3_mindWearsAsRow_23 : decode cX3_mindWearsAsRow 23 = .ok (.iload_n 2, 1) := by decide +kernel
theorem dX3_mindWearsAsRow_24 : decode cX3_mindWearsAsRow 24 = .ok (.iaload, 1) := by decide +kernel
theorem dX3_mindWearsAsRow_25 : decode cX3_mindWearsAsRow 25 = .ok (.if_icmp .eq 5, 3) := by decide +kernel
theorem dX3_mindWearsAsRow_28 : decode cX3_mindWearsAsRow 28 = .ok (.iconst 0, 1) := by decide +kernel
theorem dX3_mindWearsAsRow_29 : decode cX3_mindWearsAsRow 29 = .ok (.ireturn, 1) := by decide +kernel
theorem dX3_mindWearsAsRow_30 : decode cX3_mindWearsAsRow 30 = .ok (.aload_n 0, 1) := by decide +kernel
theorem dX3_mindWearsAsRow_31 : decode cX3_mindWearsAsRow 31 = .ok (.getfield 16, 3) := by decide +kernel
theorem dX3_mindWearsAsRow_34 : decode cX3_mindWearsAsRow 34 = .ok (.iconst 1, 1) := by decide +kernel
theorem dX3_mindWearsAsRow_35 : decode cX3_mindWearsAsRow 35 = .ok (.iconst 1, 1) := by decide +kernel
theorem dX3_mindWearsAsRow_36 : decode cX3_mindWearsAsRow 36 = .ok (.bipush (-9), 2) := by decide +kernel
theorem dX3_mindWearsAsRow_38 : decode cX3_mindWearsAsRow 38 = .ok (.invokevirtual 151, 3) := by decide +kernel
theorem dX3_mindWearsAsRow_41 : decode cX3_mindWearsAsRow 41 = .ok (.iinc 2 1, 3) := by decide +kernel
theorem dX3_mindWearsAsRow_44 : decode cX3_mindWearsAsRow 44 = .ok (.goto (-42), 3) := by decide +kernel
theorem dX3_mindWearsAsRow_47 : decode cX3_mindWearsAsRow 47 = .ok (.iconst 1, 1) := by decide +kernel
theorem dX3_mindWearsAsRow_48 : decode cX3_mindWearsAsRow 48 = .ok (.ireturn, 1) := by decide +kernel
set_option maxRecDepth 20000 in
theorem ggX3_row_X3_outside : GoodIn wsX3_row wsX3_outside := goodIn_r _ [6] (by decide +kernel) (by decide +kernel)
set_option maxRecDepth 20000 in
theorem gX3_row_X3_outside : GoodIn wsX3_row (va_wsS RX3 147 yX3_outside wsX3_outside) := goodIn_app (goodIn_of _ (by decide +kernel)) ggX3_row_X3_outside
set_option maxRecDepth 20000 in
theorem ggX3_row_X3_refuse : GoodIn wsX3_row wsX3_refuse := goodIn_r _ [10, 11, 12, 13, 14, 15, 16, 17, 18, 19, 20, 21, 22] (by decide +kernel) (by decide +kernel)
set_option maxRecDepth 20000 in
theorem gX3_row_X3_refuse : GoodIn wsX3_row (wsV RX3 57 RX3 yX3_refuse wsX3_refuse) := goodIn_app (goodIn_of _ (by decide +kernel)) ggX3_row_X3_refuse
theorem dX3_row_0 : decode cX3_row 0 = .ok (.iload_n 1, 1) := by decide +kernel
theorem dX3_row_1 : decode cX3_row 1 = .ok (.iconst 0, 1) := by decide +kernel
theorem dX3_row_2 : decode cX3_row 2 = .ok (.bipush 99, 2) := by decide +kernel
theorem dX3_row_4 : decode cX3_row 4 = .ok (.invokestatic 147, 3) := by decide +kernel
theorem dX3_row_7 : decode cX3_row 7 = .ok (.istore_n 2, 1) := by decide +kernel
theorem dX3_row_8 : decode cX3_row 8 = .ok (.iload_n 2, 1) := by decide +kernel
theorem dX3_row_9 : decode cX3_row 9 = .ok (.ifCond .eq 9, 3) := by decide +kernel
theorem dX3_row_12 : decode cX3_row 12 = .ok (.aload_n 0, 1) := by decide +kernel
theorem dX3_row_13 : decode cX3_row 13 = .ok (.iload_n 2, 1) := by decide +kernel
theorem dX3_row_14 : decode cX3_row 14 = .ok (.invokevirtual 57, 3) := by decide +kernel
theorem dX3_row_17 : decode cX3_row 17 = .ok (.ireturn, 1) := by decide +kernel
theorem dX3_row_18 : decode cX3_row 18 = .ok (.aload_n 0, 1) := by decide +kernel
theorem dX3_row_19 : decode cX3_row 19 = .ok (.getfield 37, 3) := by decide +kernel
theorem dX3_row_22 : decode cX3_row 22 = .ok (.bipush 16, 2) := by decide +kernel
theorem dX3_row_24 : decode cX3_row 24 = .ok (.if_icmp .lt 10, 3) := by decide +kernel
theorem dX3_row_27 : decode cX3_row 27 = .ok (.aload_n 0, 1) := by decide +kernel
theorem dX3_row_28 : decode cX3_row 28 = .ok (.bipush (-6), 2) := by decide +kernel
theorem dX3_row_30 : decode cX3_row 30 = .ok (.invokevirtual 57, 3) := by decide +kernel
theorem dX3_row_33 : decode cX3_row 33 = .ok (.ireturn, 1) := by decide +kernel
theorem dX3_row_34 : decode cX3_row 34 = .ok (.aload_n 0, 1) := by decide +kernel
theorem dX3_row_35 : decode cX3_row 35 = .ok (.getfield 33, 3) := by decide +kernel
theorem dX3_row_38 : decode cX3_row 38 = .ok (.aload_n 0, 1) := by decide +kernel
theorem dX3_row_39 : decode cX3_row 39 = .ok (.getfield 37, 3) := by decide +kernel
theorem dX3_row_42 : decode cX3_row 42 = .ok (.iload_n 1, 1) := by decide +kernel
theorem dX3_row_43 : decode cX3_row 43 = .ok (.iastore, 1) := by decide +kernel
theorem dX3_row_44 : decode cX3_row 44 = .ok (.aload_n 0, 1) := by decide +kernel
theorem dX3_row_45 : decode cX3_row 45 = .ok (.dup, 1) := by decide +kernel
theorem dX3_row_46 : decode cX3_row 46 = .ok (.getfield 37, 3) := by decide +kernel
theorem dX3_row_49 : decode cX3_row 49 = .ok (.iconst 1, 1) := by decide +kernel
theorem dX3_row_50 : decode cX3_row 50 = .ok (.iadd, 1) := by decide +kernel
theorem dX3_row_51 : decode cX3_row 51 = .ok (.putfield 37, 3) := by decide +kernel
theorem dX3_row_54 : decode cX3_row 54 = .ok (.aload_n 0, 1) := by decide +kernel
theorem dX3_row_55 : decode cX3_row 55 = .ok (.getfield 37, 3) := by decide +kernel
theorem dX3_row_58 : decode cX3_row 58 = .ok (.ireturn, 1) := by decide +kernel
set_option maxRecDepth 20000 in
theorem ggX3_judge_X2_become : GoodIn wsX3_judge wsX2_become := goodIn_r _ [9, 10, 11, 12, 13, 14, 15, 16, 17, 18, 19, 20, 21, 22, 23, 98, 99, 100, 101, 102, 103, 104, 105, 106, 107] (by decide +kernel) (by decide +kernel)
set_option maxRecDepth 20000 in
theorem gX3_judge_X2_become : GoodIn wsX3_judge (wsV RX3 68 RX2 yX2_become wsX2_become) := goodIn_app (goodIn_of _ (by decide +kernel)) ggX3_judge_X2_become
set_option maxRecDepth 20000 in
theorem ggX3_judge_X2_wholeCount : GoodIn wsX3_judge wsX2_wholeCount := goodIn_r _ [27, 28, 29, 30, 8, 31, 22, 32, 33, 34, 35, 20, 36, 37, 38, 39, 40, 41, 42, 98, 99, 100, 101, 102, 103, 104, 105, 106, 107] (by decide +kernel) (by decide +kernel)
set_option maxRecDepth 20000 in
theorem gX3_judge_X2_wholeCount : GoodIn wsX3_judge (wsV RX3 130 RX2 yX2_wholeCount wsX2_wholeCount) := goodIn_app (goodIn_of _ (by decide +kernel)) ggX3_judge_X2_wholeCount
set_option maxRecDepth 20000 in
theorem ggX3_judge_X2_pass : GoodIn wsX3_judge wsX2_pass := goodIn_r _ [46, 23, 21, 47, 48, 49, 8, 50, 22, 32, 33, 34, 35, 20, 51, 52, 53, 54, 16, 17, 55, 56, 57, 58, 19, 59, 60, 61, 62, 63, 64, 65, 66, 67, 68, 69, 70, 10, 71, 72, 73, 74, 75, 76, 77, 78, 18, 79, 80, 81, 82, 83, 84, 85, 86, 15, 98, 99, 100, 101, 102, 103, 104, 105, 106, 107] (by decide +kernel) (by decide +kernel)
set_option maxRecDepth 20000 in
theorem gX3_judge_X2_pass : GoodIn wsX3_judge (wsV RX3 151 RX2 yX2_pass wsX2_pass) := goodIn_app (goodIn_of _ (by decide +kernel)) ggX3_judge_X2_pass
theorem dX3_judge_0 : decode cX3_judge 0 = .ok (.aload_n 0, 1) := by decide +kernel
theorem dX3_judge_1 : decode cX3_judge 1 = .ok (.getfield 37, 3) := by decide +kernel
theorem dX3_judge_4 : decode cX3_judge 4 = .ok (.istore_n 1, 1) := by decide +kernel
theorem dX3_judge_5 : decode cX3_judge 5 = .ok (.aload_n 0, 1) := by decide +kernel
theorem dX3_judge_6 : decode cX3_judge 6 = .ok (.iconst 0, 1) := by decide +kernel
theorem dX3_judge_7 : decode cX3_judge 7 = .ok (.putfield 37, 3) := by decide +kernel
theorem dX3_judge_10 : decode cX3_judge 10 = .ok (.aload_n 0, 1) := by decide +kernel
theorem dX3_judge_11 : decode cX3_judge 11 = .ok (.getfield 16, 3) := by decide +kernel
theorem dX3_judge_14 : decode cX3_judge 14 = .ok (.aload_n 0, 1) := by decide +kernel
theorem dX3_judge_15 : decode cX3_judge 15 = .ok (.getfield 10, 3) := by decide +kernel
theorem dX3_judge_18 : decode cX3_judge 18 = .ok (.invokevirtual 68, 3) := by decide +kernel
theorem dX3_judge_21 : decode cX3_judge 21 = .ok (.iconst 0, 1) := by decide +kernel
theorem dX3_judge_22 : decode cX3_judge 22 = .ok (.istore_n 2, 1) := by decide +kernel
theorem dX3_judge_23 : decode cX3_judge 23 = .ok (.iload_n 2, 1) := by decide +kernel
theorem dX3_judge_24 : decode cX3_judge 24 = .ok (.iload_n 1, 1) := by decide +kernel
theorem dX3_judge_25 : decode cX3_judge 25 = .ok (.if_icmp .ge 38, 3) := by decide +kernel
theorem dX3_judge_28 : decode cX3_judge 28 = .ok (.aload_n 0, 1) := by decide +kernel
theorem dX3_judge_29 : decode cX3_judge 29 = .ok (.getfield 16, 3) := by decide +kernel
theorem dX3_judge_32 : decode cX3_judge 32 = .ok (.invokevirtual 130, 3) := by decide +kernel
theorem dX3_judge_35 : decode cX3_judge 35 = .ok (.aload_n 0, 1) := by decide +kernel
theorem dX3_judge_36 : decode cX3_judge 36 = .ok (.getfield 33, 3) := by decide +kernel
theorem dX3_judge_39 : decode cX3_judge 39 = .ok (.iload_n 2, 1) := by decide +kernel
theorem dX3_judge_40 : decode cX3_judge 40 = .ok (.iaload, 1) := by decide +kernel
theorem dX3_judge_41 : decode cX3_judge 41 = .ok (.if_icmp .eq 5, 3) := by decide +kernel
theorem dX3_judge_44 : decode cX3_judge 44 = .ok (.iload_n 2, 1) := by decide +kernel
theorem dX3_judge_45 : decode cX3_judge 45 = .ok (.ireturn, 1) := by decide +kernel
theorem dX3_judge_46 : decode cX3_judge 46 = .ok (.aload_n 0, 1) := by decide +kernel
theorem dX3_judge_47 : decode cX3_judge 47 = .ok (.getfield 16, 3) := by decide +kernel
theorem dX3_judge_50 : decode cX3_judge 50 = .ok (.iconst 1, 1) := by decide +kernel
theorem dX3_judge_51 : decode cX3_judge 51 = .ok (.iconst 1, 1) := by decide +kernel
theorem dX3_judge_52 : decode cX3_judge 52 = .ok (.bipush (-9), 2) := by decide +kernel
theorem dX3_judge_54 : decode cX3_judge 54 = .ok (.invokevirtual 151, 3) := by decide +kernel
theorem dX3_judge_57 : decode cX3_judge 57 = .ok (.iinc 2 1, 3) := by decide +kernel
theorem dX3_judge_60 : decode cX3_judge 60 = .ok (.goto (-37), 3) := by decide +kernel
theorem dX3_judge_63 : decode cX3_judge 63 = .ok (.bipush (-9), 2) := by decide +kernel
theorem dX3_judge_65 : decode cX3_judge 65 = .ok (.ireturn, 1) := by decide +kernel
theorem dX3_clear_0 : decode cX3_clear 0 = .ok (.aload_n 0, 1) := by decide +kernel
theorem dX3_clear_1 : decode cX3_clear 1 = .ok (.getfield 37, 3) := by decide +kernel
theorem dX3_clear_4 : decode cX3_clear 4 = .ok (.istore_n 1, 1) := by decide +kernel
theorem dX3_clear_5 : decode cX3_clear 5 = .ok (.aload_n 0, 1) := by decide +kernel
theorem dX3_clear_6 : decode cX3_clear 6 = .ok (.iconst 0, 1) := by decide +kernel
theorem dX3_clear_7 : decode cX3_clear 7 = .ok (.putfield 37, 3) := by decide +kernel
theorem dX3_clear_10 : decode cX3_clear 10 = .ok (.iload_n 1, 1) := by decide +kernel
theorem dX3_clear_11 : decode cX3_clear 11 = .ok (.ireturn, 1) := by decide +kernel
set_option maxRecDepth 20000 in
theorem ggX3_lots_X3_outside : GoodIn wsX3_lots wsX3_outside := goodIn_r _ [7] (by decide +kernel) (by decide +kernel)
set_option maxRecDepth 20000 in
theorem gX3_lots_X3_outside : GoodIn wsX3_lots (va_wsS RX3 147 yX3_outside wsX3_outside) := goodIn_app (goodIn_of _ (by decide +kernel)) ggX3_lots_X3_outside
set_option maxRecDepth 20000 in
theorem ggX3_lots_X3_refuse : GoodIn wsX3_lots wsX3_refuse := goodIn_r _ [11, 12, 109, 110, 111, 112, 113, 114, 115, 116, 117, 118, 119] (by decide +kernel) (by decide +kernel)
set_option maxRecDepth 20000 in
theorem gX3_lots_X3_refuse : GoodIn wsX3_lots (wsV RX3 57 RX3 yX3_refuse wsX3_refuse) := goodIn_app (goodIn_of _ (by decide +kernel)) ggX3_lots_X3_refuse
set_option maxRecDepth 20000 in
theorem ggX3_lots_X3_breakByLot : GoodIn wsX3_lots wsX3_breakByLot := goodIn_r _ [16, 3, 1, 17, 18, 19, 20, 2, 21, 22, 23, 24, 25, 26, 27, 28, 29, 30, 31, 32, 33, 34, 35, 36, 37, 38, 39, 40, 41, 42, 43, 44, 109, 110, 111, 112, 113, 114, 115, 116, 117, 118, 119, 120, 121, 122, 123, 124, 125, 126, 127, 128, 129] (by decide +kernel) (by decide +kernel)
set_option maxRecDepth 20000 in
theorem gX3_lots_X3_breakByLot : GoodIn wsX3_lots (wsV RX3 266 RX3 yX3_breakByLot wsX3_breakByLot) := goodIn_app (goodIn_of _ (by decide +kernel)) ggX3_lots_X3_breakByLot
set_option maxRecDepth 20000 in
theorem ggX3_lots_X2_pass : GoodIn wsX3_lots wsX2_pass := goodIn_r _ [48, 40, 38, 49, 50, 51, 25, 52, 39, 53, 42, 43, 44, 37, 54, 55, 56, 57, 33, 34, 58, 59, 60, 61, 36, 62, 63, 64, 65, 66, 67, 68, 69, 70, 71, 72, 73, 27, 74, 75, 76, 77, 78, 79, 80, 81, 35, 82, 83, 84, 85, 86, 87, 88, 89, 32, 120, 121, 122, 123, 124, 125, 126, 127, 128, 129] (by decide +kernel) (by decide +kernel)
set_option maxRecDepth 20000 in
theorem gX3_lots_X2_pass : GoodIn wsX3_lots (wsV RX3 151 RX2 yX2_pass wsX2_pass) := goodIn_app (goodIn_of _ (by decide +kernel)) ggX3_lots_X2_pass
set_option maxRecDepth 20000 in
theorem ggX3_lots_X2_wholeCount : GoodIn wsX3_lots wsX2_wholeCount := goodIn_r _ [93, 94, 95, 96, 25, 97, 39, 53, 42, 43, 44, 37, 98, 99, 100, 101, 102, 103, 104, 120, 121, 122, 123, 124, 125, 126, 127, 128, 129] (by decide +kernel) (by decide +kernel)
set_option maxRecDepth 20000 in
theorem gX3_lots_X2_wholeCount : GoodIn wsX3_lots (wsV RX3 130 RX2 yX2_wholeCount wsX2_wholeCount) := goodIn_app (goodIn_of _ (by decide +kernel)) ggX3_lots_X2_wholeCount
set_option maxRecDepth 20000 in
theorem ggX3_lots_X2_mendedByAll : GoodIn wsX3_lots wsX2_mendedByAll := goodIn_r _ [108, 38, 32, 120, 121, 122, 123, 124, 125, 126, 127, 128, 129] (by decide +kernel) (by decide +kernel)
set_option maxRecDepth 20000 in
theorem gX3_lots_X2_mendedByAll : GoodIn wsX3_lots (wsV RX3 158 RX2 yX2_mendedByAll wsX2_mendedByAll) := goodIn_app (goodIn_of _ (by decide +kernel)) ggX3_lots_X2_mendedByAll
theorem dX3_lots_0 : decode cX3_lots 0 = .ok (.iload_n 1, 1) := by decide +kernel
theorem dX3_lots_1 : decode cX3_lots 1 = .ok (.iconst 1, 1) := by decide +kernel
theorem dX3_lots_2 : decode cX3_lots 2 = .ok (.bipush 20, 2) := by decide +kernel
theorem dX3_lots_4 : decode cX3_lots 4 = .ok (.invokestatic 147, 3) := by decide +kernel
theorem dX3_lots_7 : decode cX3_lots 7 = .ok (.istore 4, 2) := by decide +kernel
theorem dX3_lots_9 : decode cX3_lots 9 = .ok (.iload 4, 2) := by decide +kernel
theorem dX3_lots_11 : decode cX3_lots 11 = .ok (.ifCond .eq 10, 3) := by decide +kernel
theorem dX3_lots_14 : decode cX3_lots 14 = .ok (.aload_n 0, 1) := by decide +kernel
theorem dX3_lots_15 : decode cX3_lots 15 = .ok (.iload 4, 2) := by decide +kernel
theorem dX3_lots_17 : decode cX3_lots 17 = .ok (.invokevirtual 57, 3) := by decide +kernel
theorem dX3_lots_20 : decode cX3_lots 20 = .ok (.ireturn, 1) := by decide +kernel
theorem dX3_lots_21 : decode cX3_lots 21 = .ok (.iload_n 3, 1) := by decide +kernel
theorem dX3_lots_22 : decode cX3_lots 22 = .ok (.ifCond .lt 8, 3) := by decide +kernel
theorem dX3_lots_25 : decode cX3_lots 25 = .ok (.iload_n 3, 1) := by decide +kernel
theorem dX3_lots_26 : decode cX3_lots 26 = .ok (.iconst 1, 1) := by decide +kernel
theorem dX3_lots_27 : decode cX3_lots 27 = .ok (.if_icmp .le 10, 3) := by decide +kernel
theorem dX3_lots_30 : decode cX3_lots 30 = .ok (.aload_n 0, 1) := by decide +kernel
theorem dX3_lots_31 : decode cX3_lots 31 = .ok (.bipush (-2), 2) := by decide +kernel
theorem dX3_lots_33 : decode cX3_lots 33 = .ok (.invokevirtual 57, 3) := by decide +kernel
theorem dX3_lots_36 : decode cX3_lots 36 = .ok (.ireturn, 1) := by decide +kernel
theorem dX3_lots_37 : decode cX3_lots 37 = .ok (.aload_n 0, 1) := by decide +kernel
theorem dX3_lots_38 : decode cX3_lots 38 = .ok (.getfield 10, 3) := by decide +kernel
theorem dX3_lots_41 : decode cX3_lots 41 = .ok (.getfield 190, 3) := by decide +kernel
theorem dX3_lots_44 : decode cX3_lots 44 = .ok (.ifCond .ne 10, 3) := by decide +kernel
theorem dX3_lots_47 : decode cX3_lots 47 = .ok (.aload_n 0, 1) := by decide +kernel
theorem dX3_lots_48 : decode cX3_lots 48 = .ok (.bipush (-3), 2) := by decide +kernel
theorem dX3_lots_50 : decode cX3_lots 50 = .ok (.invokevirtual 57, 3) := by decide +kernel
theorem dX3_lots_53 : decode cX3_lots 53 = .ok (.ireturn, 1) := by decide +kernel
theorem dX3_lots_54 : decode cX3_lots 54 = .ok (.iload_n 2, 1) := by decide +kernel
theorem dX3_lots_55 : decode cX3_lots 55 = .ok (.istore 5, 2) := by decide +kernel
theorem dX3_lots_57 : decode cX3_lots 57 = .ok (.iconst 0, 1) := by decide +kernel
theorem dX3_lots_58 : decode cX3_lots 58 = .ok (.istore 6, 2) := by decide +kernel
theorem dX3_lots_60 : decode cX3_lots 60 = .ok (.iconst 0, 1) := by decide +kernel
theorem dX3_lots_61 : decode cX3_lots 61 = .ok (.istore 7, 2) := by decide +kernel
theorem dX3_lots_63 : decode cX3_lots 63 = .ok (.iconst 0, 1) := by decide +kernel
theorem dX3_lots_64 : decode cX3_lots 64 = .ok (.istore 8, 2) := by decide +kernel
theorem dX3_lots_66 : decode cX3_lots 66 = .ok (.iload 8, 2) := by decide +kernel
theorem dX3_lots_68 : decode cX3_lots 68 = .ok (.iload_n 1, 1) := by decide +kernel
theorem dX3_lots_69 : decode cX3_lots 69 = .ok (.if_icmp .ge 61, 3) := by decide +kernel
theorem dX3_lots_72 : decode cX3_lots 72 = .ok (.aload_n 0, 1) := by decide +kernel
theorem dX3_lots_73 : decode cX3_lots 73 = .ok (.iload 5, 2) := by decide +kernel
theorem dX3_lots_75 : decode cX3_lots 75 = .ok (.invokevirtual 266, 3) := by decide +kernel
theorem dX3_lots_78 : decode cX3_lots 78 = .ok (.istore 5, 2) := by decide +kernel
theorem dX3_lots_80 : decode cX3_lots 80 = .ok (.aload_n 0, 1) := by decide +kernel
theorem dX3_lots_81 : decode cX3_lots 81 = .ok (.getfield 16, 3) := by decide +kernel
theorem dX3_lots_84 : decode cX3_lots 84 = .ok (.bipush 10, 2) := by decide +kernel
theorem dX3_lots_86 : decode cX3_lots 86 = .ok (.iconst 1, 1) := by decide +kernel
theorem dX3_lots_87 : decode cX3_lots 87 = .ok (.bipush (-9), 2) := by decide +kernel
theorem dX3_lots_89 : decode cX3_lots 89 = .ok (.invokevirtual 151, 3) := by decide +kernel
theorem dX3_lots_92 : decode cX3_lots 92 = .ok (.iload 6, 2) := by decide +kernel
theorem dX3_lots_94 : decode cX3_lots 94 = .ok (.aload_n 0, 1) := by decide +kernel
theorem dX3_lots_95 : decode cX3_lots 95 = .ok (.getfield 16, 3) := by decide +kernel
theorem dX3_lots_98 : decode cX3_lots 98 = .ok (.invokevirtual 130, 3) := by decide +kernel
theorem dX3_lots_101 : decode cX3_lots 101 = .ok (.iadd, 1) := by decide +kernel
theorem dX3_lots_102 : decode cX3_lots 102 = .ok (.istore 6, 2) := by decide +kernel
theorem dX3_lots_104 : decode cX3_lots 104 = .ok (.iload 7, 2) := by decide +kernel
theorem dX3_lots_106 : decode cX3_lots 106 = .ok (.aload_n 0, 1) := by decide +kernel
theorem dX3_lots_107 : decode cX3_lots 107 = .ok (.getfield 16, 3) := by decide +kernel
theorem dX3_lots_110 : decode cX3_lots 110 = .ok (.invokevirtual 158, 3) := by decide +kernel
theorem dX3_lots_113 : decode cX3_lots 113 = .ok (.aload_n 0, 1) := by decide +kernel
theorem dX3_lots_114 : decode cX3_lots 114 = .ok (.getfield 10, 3) := by decide +kernel
theorem dX3_lots_117 : decode cX3_lots 117 = .ok (.invokevirtual 158, 3) := by decide +kernel
theorem dX3_lots_120 : decode cX3_lots 120 = .ok (.isub, 1) := by decide +kernel
theorem dX3_lots_121 : decode cX3_lots 121 = .ok (.iadd, 1) := by decide +kernel
theorem dX3_lots_122 : decode cX3_lots 122 = .ok (.istore 7, 2) := by decide +kernel
theorem dX3_lots_124 : decode cX3_lots 124 = .ok (.iinc 8 1, 3) := by decide +kernel
theorem dX3_lots_127 : decode cX3_lots 127 = .ok (.goto (-61), 3) := by decide +kernel
theorem dX3_lots_130 : decode cX3_lots 130 = .ok (.iload_n 3, 1) := by decide +kernel
theorem dX3_lots_131 : decode cX3_lots 131 = .ok (.ifCond .ne 8, 3) := by decide +kernel
theorem dX3_lots_134 : decode cX3_lots 134 = .ok (.iload 6, 2) := by decide +kernel
theorem dX3_lots_136 : decode cX3_lots 136 = .ok (.goto 5, 3) := by decide +kernel
theorem dX3_lots_139 : decode cX3_lots 139 = .ok (.iload 7, 2) := by decide +kernel
theorem dX3_lots_141 : decode cX3_lots 141 = .ok (.ireturn, 1) := by decide +kernel
set_option maxRecDepth 20000 in
theorem ggX3_breakByLot_X2_become : GoodIn wsX3_breakByLot wsX2_become := goodIn_r _ [13, 14, 15, 16, 17, 18, 19, 20, 21, 22, 23, 24, 25, 26, 27, 43, 44, 45, 46, 47, 48, 49, 50, 51, 52] (by decide +kernel) (by decide +kernel)
set_option maxRecDepth 20000 in
theorem gX3_breakByLot_X2_become : GoodIn wsX3_breakByLot (wsV RX3 68 RX2 yX2_become wsX2_become) := goodIn_app (goodIn_of _ (by decide +kernel)) ggX3_breakByLot_X2_become
set_option maxRecDepth 20000 in
theorem ggX3_breakByLot_X2_isWhole : GoodIn wsX3_breakByLot wsX2_isWhole := goodIn_r _ [31, 24, 43, 44, 45, 46, 47, 48, 49, 50, 51, 52] (by decide +kernel) (by decide +kernel)
set_option maxRecDepth 20000 in
theorem gX3_breakByLot_X2_isWhole : GoodIn wsX3_breakByLot (wsV RX3 127 RX2 yX2_isWhole wsX2_isWhole) := goodIn_app (goodIn_of _ (by decide +kernel)) ggX3_breakByLot_X2_isWhole
theorem dX3_breakByLot_0 : decode cX3_breakByLot 0 = .ok (.aload_n 0, 1) := by decide +kernel
theorem dX3_breakByLot_1 : decode cX3_breakByLot 1 = .ok (.getfield 16, 3) := by decide +kernel
theorem dX3_breakByLot_4 : decode cX3_breakByLot 4 = .ok (.aload_n 0, 1) := by decide +kernel
theorem dX3_breakByLot_5 : decode cX3_breakByLot 5 = .ok (.getfield 10, 3) := by decide +kernel
theorem dX3_breakByLot_8 : decode cX3_breakByLot 8 = .ok (.invokevirtual 68, 3) := by decide +kernel
theorem dX3_breakByLot_11 : decode cX3_breakByLot 11 = .ok (.iload_n 1, 1) := by decide +kernel
theorem dX3_breakByLot_12 : decode cX3_breakByLot 12 = .ok (.istore_n 2, 1) := by decide +kernel
theorem dX3_breakByLot_13 : decode cX3_breakByLot 13 = .ok (.iconst 0, 1) := by decide +kernel
theorem dX3_breakByLot_14 : decode cX3_breakByLot 14 = .ok (.istore_n 3, 1) := by decide +kernel
theorem dX3_breakByLot_15 : decode cX3_breakByLot 15 = .ok (.iload_n 3, 1) := by decide +kernel
theorem dX3_breakByLot_16 : decode cX3_breakByLot 16 = .ok (.aload_n 0, 1) := by decide +kernel
theorem dX3_breakByLot_17 : decode cX3_breakByLot 17 = .ok (.getfield 16, 3) := by decide +kernel
theorem dX3_breakByLot_20 : decode cX3_breakByLot 20 = .ok (.getfield 171, 3) := by decide +kernel
theorem dX3_breakByLot_23 : decode cX3_breakByLot 23 = .ok (.if_icmp .ge 74, 3) := by decide +kernel
theorem dX3_breakByLot_26 : decode cX3_breakByLot 26 = .ok (.aload_n 0, 1) := by decide +kernel
theorem dX3_breakByLot_27 : decode cX3_breakByLot 27 = .ok (.getfield 16, 3) := by decide +kernel
theorem dX3_breakByLot_30 : decode cX3_breakByLot 30 = .ok (.iload_n 3, 1) := by decide +kernel
theorem dX3_breakByLot_31 : decode cX3_breakByLot 31 = .ok (.invokevirtual 127, 3) := by decide +kernel
theorem dX3_breakByLot_34 : decode cX3_breakByLot 34 = .ok (.ifCond .eq 57, 3) := by decide +kernel
theorem dX3_breakByLot_37 : decode cX3_breakByLot 37 = .ok (.iload_n 2, 1) := by decide +kernel
theorem dX3_breakByLot_38 : decode cX3_breakByLot 38 = .ok (.ldc_w 269, 3) := by decide +kernel
theorem dX3_breakByLot_41 : decode cX3_breakByLot 41 = .ok (.imul, 1) := by decide +kernel
theorem dX3_breakByLot_42 : decode cX3_breakByLot 42 = .ok (.ldc_w 270, 3) := by decide +kernel
theorem dX3_breakByLot_45 : decode cX3_breakByLot 45 = .ok (.iadd, 1) := by decide +kernel
theorem dX3_breakByLot_46 : decode cX3_breakByLot 46 = .ok (.istore_n 2, 1) := by decide +kernel
theorem dX3_breakByLot_47 : decode cX3_breakByLot 47 = .ok (.iload_n 2, 1) := by decide +kernel
theorem dX3_breakByLot_48 : decode cX3_breakByLot 48 = .ok (.ldc_w 271, 3) := by decide +kernel
theorem dX3_breakByLot_51 : decode cX3_breakByLot 51 = .ok (.iand, 1) := by decide +kernel
theorem dX3_breakByLot_52 : decode cX3_breakByLot 52 = .ok (.sipush 256, 3) := by decide +kernel
theorem dX3_breakByLot_55 : decode cX3_breakByLot 55 = .ok (.idiv, 1) := by decide +kernel
theorem dX3_breakByLot_56 : decode cX3_breakByLot 56 = .ok (.aload_n 0, 1) := by decide +kernel
theorem dX3_breakByLot_57 : decode cX3_breakByLot 57 = .ok (.getfield 16, 3) := by decide +kernel
theorem dX3_breakByLot_60 : decode cX3_breakByLot 60 = .ok (.getfield 190, 3) := by decide +kernel
theorem dX3_breakByLot_63 : decode cX3_breakByLot 63 = .ok (.iconst 1, 1) := by decide +kernel
theorem dX3_breakByLot_64 : decode cX3_breakByLot 64 = .ok (.iadd, 1) := by decide +kernel
theorem dX3_breakByLot_65 : decode cX3_breakByLot 65 = .ok (.irem, 1) := by decide +kernel
theorem dX3_breakByLot_66 : decode cX3_breakByLot 66 = .ok (.istore 4, 2) := by decide +kernel
theorem dX3_breakByLot_68 : decode cX3_breakByLot 68 = .ok (.iload 4, 2) := by decide +kernel
theorem dX3_breakByLot_70 : decode cX3_breakByLot 70 = .ok (.aload_n 0, 1) := by decide +kernel
theorem dX3_breakByLot_71 : decode cX3_breakByLot 71 = .ok (.getfield 16, 3) := by decide +kernel
theorem dX3_breakByLot_74 : decode cX3_breakByLot 74 = .ok (.getfield 190, 3) := by decide +kernel
theorem dX3_breakByLot_77 : decode cX3_breakByLot 77 = .ok (.if_icmp .ge 14, 3) := by decide +kernel
theorem dX3_breakByLot_80 : decode cX3_breakByLot 80 = .ok (.aload_n 0, 1) := by decide +kernel
theorem dX3_breakByLot_81 : decode cX3_breakByLot 81 = .ok (.getfield 16, 3) := by decide +kernel
theorem dX3_breakByLot_84 : decode cX3_breakByLot 84 = .ok (.getfield 114, 3) := by decide +kernel
theorem dX3_breakByLot_87 : decode cX3_breakByLot 87 = .ok (.iload_n 3, 1) := by decide +kernel
theorem dX3_breakByLot_88 : decode cX3_breakByLot 88 = .ok (.iload 4, 2) := by decide +kernel
theorem dX3_breakByLot_90 : decode cX3_breakByLot 90 = .ok (.iastore, 1) := by decide +kernel
theorem dX3_breakByLot_91 : decode cX3_breakByLot 91 = .ok (.iinc 3 1, 3) := by decide +kernel
theorem dX3_breakByLot_94 : decode cX3_breakByLot 94 = .ok (.goto (-79), 3) := by decide +kernel
theorem dX3_breakByLot_97 : decode cX3_breakByLot 97 = .ok (.iload_n 2, 1) := by decide +kernel
theorem dX3_breakByLot_98 : decode cX3_breakByLot 98 = .ok (.ireturn, 1) := by decide +kernel
set_option maxRecDepth 20000 in
theorem ggX3_image_X2_become : GoodIn wsX3_image wsX2_become := goodIn_r _ [9, 10, 11, 12, 13, 14, 15, 16, 17, 18, 19, 20, 21, 22, 23, 35, 36, 37, 38, 39, 40, 41, 42, 43, 44] (by decide +kernel) (by decide +kernel)
set_option maxRecDepth 20000 in
theorem gX3_image_X2_become : GoodIn wsX3_image (wsV RX3 68 RX2 yX2_become wsX2_become) := goodIn_app (goodIn_of _ (by decide +kernel)) ggX3_image_X2_become
theorem dX3_image_0 : decode cX3_image 0 = .ok (.aload_n 0, 1) := by decide +kernel
theorem dX3_image_1 : decode cX3_image 1 = .ok (.getfield 19, 3) := by decide +kernel
theorem dX3_image_4 : decode cX3_image 4 = .ok (.aload_n 0, 1) := by decide +kernel
theorem dX3_image_5 : decode cX3_image 5 = .ok (.getfield 10, 3) := by decide +kernel
theorem dX3_image_8 : decode cX3_image 8 = .ok (.invokevirtual 68, 3) := by decide +kernel
theorem dX3_image_11 : decode cX3_image 11 = .ok (.aload_n 0, 1) := by decide +kernel
theorem dX3_image_12 : decode cX3_image 12 = .ok (.iconst 1, 1) := by decide +kernel
theorem dX3_image_13 : decode cX3_image 13 = .ok (.putfield 22, 3) := by decide +kernel
theorem dX3_image_16 : decode cX3_image 16 = .ok (.aload_n 0, 1) := by decide +kernel
theorem dX3_image_17 : decode cX3_image 17 = .ok (.getfield 10, 3) := by decide +kernel
theorem dX3_image_20 : decode cX3_image 20 = .ok (.getfield 120, 3) := by decide +kernel
theorem dX3_image_23 : decode cX3_image 23 = .ok (.ireturn, 1) := by decide +kernel
set_option maxRecDepth 20000 in
theorem ggX3_on_X3_refuse : GoodIn wsX3_on wsX3_refuse := goodIn_r _ [9, 10, 30, 31, 32, 33, 34, 35, 36, 37, 38, 39, 40] (by decide +kernel) (by decide +kernel)
set_option maxRecDepth 20000 in
theorem gX3_on_X3_refuse : GoodIn wsX3_on (wsV RX3 57 RX3 yX3_refuse wsX3_refuse) := goodIn_app (goodIn_of _ (by decide +kernel)) ggX3_on_X3_refuse
set_option maxRecDepth 20000 in
theorem ggX3_on_X2_become : GoodIn wsX3_on wsX2_become := goodIn_r _ [15, 16, 17, 18, 19, 20, 21, 22, 23, 24, 25, 26, 27, 28, 29, 41, 42, 43, 44, 45, 46, 47, 48, 49, 50] (by decide +kernel) (by decide +kernel)
set_option maxRecDepth 20000 in
theorem gX3_on_X2_become : GoodIn wsX3_on (wsV RX3 68 RX2 yX2_become wsX2_become) := goodIn_app (goodIn_of _ (by decide +kernel)) ggX3_on_X2_become
theorem dX3_on_0 : decode cX3_on 0 = .ok (.aload_n 0, 1) := by decide +kernel
theorem dX3_on_1 : decode cX3_on 1 = .ok (.getfield 22, 3) := by decide +kernel
theorem dX3_on_4 : decode cX3_on 4 = .ok (.ifCond .ne 10, 3) := by decide +kernel
theorem dX3_on_7 : decode cX3_on 7 = .ok (.aload_n 0, 1) := by decide +kernel
theorem dX3_on_8 : decode cX3_on 8 = .ok (.bipush (-3), 2) := by decide +kernel
theorem dX3_on_10 : decode cX3_on 10 = .ok (.invokevirtual 57, 3) := by decide +kernel
theorem dX3_on_13 : decode cX3_on 13 = .ok (.ireturn, 1) := by decide +kernel
theorem dX3_on_14 : decode cX3_on 14 = .ok (.aload_n 0, 1) := by decide +kernel
theorem dX3_on_15 : decode cX3_on 15 = .ok (.getfield 10, 3) := by decide +kernel
theorem dX3_on_18 : decode cX3_on 18 = .ok (.aload_n 0, 1) := by decide +kernel
theorem dX3_on_19 : decode cX3_on 19 = .ok (.getfield 19, 3) := by decide +kernel
theorem dX3_on_22 : decode cX3_on 22 = .ok (.invokevirtual 68, 3) := by decide +kernel
theorem dX3_on_25 : decode cX3_on 25 = .ok (.aload_n 0, 1) := by decide +kernel
theorem dX3_on_26 : decode cX3_on 26 = .ok (.getfield 10, 3) := by decide +kernel
theorem dX3_on_29 : decode cX3_on 29 = .ok (.getfield 120, 3) := by decide +kernel
theorem dX3_on_32 : decode cX3_on 32 = .ok (.ireturn, 1) := by decide +kernel
set_option maxRecDepth 20000 in
theorem ggX3_count_X2_wholeBits : GoodIn wsX3_count wsX2_wholeBits := goodIn_r _ [12, 13, 14, 15, 16, 11, 17, 18, 41, 42, 43, 44, 45, 46, 47, 48, 49, 50] (by decide +kernel) (by decide +kernel)
set_option maxRecDepth 20000 in
theorem gX3_count_X2_wholeBits : GoodIn wsX3_count (wsV RX3 155 RX2 yX2_wholeBits wsX2_wholeBits) := goodIn_app (goodIn_of _ (by decide +kernel)) ggX3_count_X2_wholeBits
set_option maxRecDepth 20000 in
theorem ggX3_count_X2_wearOfAll : GoodIn wsX3_count wsX2_wearOfAll := goodIn_r _ [22, 13, 23, 41, 42, 43, 44, 45, 46, 47, 48, 49, 50] (by decide +kernel) (by decide +kernel)
set_option maxRecDepth 20000 in
theorem gX3_count_X2_wearOfAll : GoodIn wsX3_count (wsV RX3 272 RX2 yX2_wearOfAll wsX2_wearOfAll) := goodIn_app (goodIn_of _ (by decide +kernel)) ggX3_count_X2_wearOfAll
set_option maxRecDepth 20000 in
theorem ggX3_count_X2_mendedByAll : GoodIn wsX3_count wsX2_mendedByAll := goodIn_r _ [27, 28, 29, 41, 42, 43, 44, 45, 46, 47, 48, 49, 50] (by decide +kernel) (by decide +kernel)
set_option maxRecDepth 20000 in
theorem gX3_count_X2_mendedByAll : GoodIn wsX3_count (wsV RX3 158 RX2 yX2_mendedByAll wsX2_mendedByAll) := goodIn_app (goodIn_of _ (by decide +kernel)) ggX3_count_X2_mendedByAll
theorem dX3_count_0 : decode cX3_count 0 = .ok (.iload_n 1, 1) := by decide +kernel
theorem dX3_count_1 : decode cX3_count 1 = .ok (.tableswitch 108 0 7 #[47, 55, 63, 71, 79, 87, 95, 100], 47) := by decide +kernel
theorem dX3_count_48 : decode cX3_count 48 = .ok (.aload_n 0, 1) := by decide +kernel
theorem dX3_count_49 : decode cX3_count 49 = .ok (.getfield 10, 3) := by decide +kernel
theorem dX3_count_52 : decode cX3_count 52 = .ok (.getfield 190, 3) := by decide +kernel
theorem dX3_count_55 : decode cX3_count 55 = .ok (.ireturn, 1) := by decide +kernel
theorem dX3_count_56 : decode cX3_count 56 = .ok (.aload_n 0, 1) := by decide +kernel
theorem dX3_count_57 : decode cX3_count 57 = .ok (.getfield 10, 3) := by decide +kernel
theorem dX3_count_60 : decode cX3_count 60 = .ok (.getfield 171, 3) := by decide +kernel
theorem dX3_count_63 : decode cX3_count 63 = .ok (.ireturn, 1) := by decide +kernel
theorem dX3_count_64 : decode cX3_count 64 = .ok (.aload_n 0, 1) := by decide +kernel
theorem dX3_count_65 : decode cX3_count 65 = .ok (.getfield 10, 3) := by decide +kernel
theorem dX3_count_68 : decode cX3_count 68 = .ok (.getfield 120, 3) := by decide +kernel
theorem dX3_count_71 : decode cX3_count 71 = .ok (.ireturn, 1) := by decide +kernel
theorem dX3_count_72 : decode cX3_count 72 = .ok (.aload_n 0, 1) := by decide +kernel
theorem dX3_count_73 : decode cX3_count 73 = .ok (.getfield 10, 3) := by decide +kernel
theorem dX3_count_76 : decode cX3_count 76 = .ok (.invokevirtual 155, 3) := by decide +kernel
theorem dX3_count_79 : decode cX3_count 79 = .ok (.ireturn, 1) := by decide +kernel
theorem dX3_count_80 : decode cX3_count 80 = .ok (.aload_n 0, 1) := by decide +kernel
theorem dX3_count_81 : decode cX3_count 81 = .ok (.getfield 10, 3) := by decide +kernel
theorem dX3_count_84 : decode cX3_count 84 = .ok (.invokevirtual 272, 3) := by decide +kernel
theorem dX3_count_87 : decode cX3_count 87 = .ok (.ireturn, 1) := by decide +kernel
theorem dX3_count_88 : decode cX3_count 88 = .ok (.aload_n 0, 1) := by decide +kernel
theorem dX3_count_89 : decode cX3_count 89 = .ok (.getfield 10, 3) := by decide +kernel
theorem dX3_count_92 : decode cX3_count 92 = .ok (.invokevirtual 158, 3) := by decide +kernel
theorem dX3_count_95 : decode cX3_count 95 = .ok (.ireturn, 1) := by decide +kernel
theorem dX3_count_96 : decode cX3_count 96 = .ok (.aload_n 0, 1) := by decide +kernel
theorem dX3_count_97 : decode cX3_count 97 = .ok (.getfield 37, 3) := by decide +kernel
theorem dX3_count_100 : decode cX3_count 100 = .ok (.ireturn, 1) := by decide +kernel
theorem dX3_count_101 : decode cX3_count 101 = .ok (.aload_n 0, 1) := by decide +kernel
theorem dX3_count_102 : decode cX3_count 102 = .ok (.getfield 29, 3) := by decide +kernel
theorem dX3_count_105 : decode cX3_count 105 = .ok (.getfield 275, 3) := by decide +kernel
theorem dX3_count_108 : decode cX3_count 108 = .ok (.ireturn, 1) := by decide +kernel
theorem dX3_count_109 : decode cX3_count 109 = .ok (.iload_n 1, 1) := by decide +kernel
theorem dX3_count_110 : decode cX3_count 110 = .ok (.bipush 10, 2) := by decide +kernel
theorem dX3_count_112 : decode cX3_count 112 = .ok (.if_icmp .le 21, 3) := by decide +kernel
theorem dX3_count_115 : decode cX3_count 115 = .ok (.iload_n 1, 1) := by decide +kernel
theorem dX3_count_116 : decode cX3_count 116 = .ok (.bipush 16, 2) := by decide +kernel
theorem dX3_count_118 : decode cX3_count 118 = .ok (.if_icmp .gt 15, 3) := by decide +kernel
theorem dX3_count_121 : decode cX3_count 121 = .ok (.aload_n 0, 1) := by decide +kernel
theorem dX3_count_122 : decode cX3_count 122 = .ok (.getfield 41, 3) := by decide +kernel
theorem dX3_count_125 : decode cX3_count 125 = .ok (.iload_n 1, 1) := by decide +kernel
theorem dX3_count_126 : decode cX3_count 126 = .ok (.bipush 10, 2) := by decide +kernel
theorem dX3_count_128 : decode cX3_count 128 = .ok (.isub, 1) := by decide +kernel
theorem dX3_count_129 : decode cX3_count 129 = .ok (.iaload, 1) := by decide +kernel
theorem dX3_count_130 : decode cX3_count 130 = .ok (.goto 5, 3) := by decide +kernel
theorem dX3_count_133 : decode cX3_count 133 = .ok (.bipush (-9), 2) := by decide +kernel
theorem dX3_count_135 : decode cX3_count 135 = .ok (.ireturn, 1) := by decide +kernel
theorem dX3_refuse_0 : decode cX3_refuse 0 = .ok (.iload_n 1, 1) := by decide +kernel
theorem dX3_refuse_1 : decode cX3_refuse 1 = .ok (.ifCond .ge 20, 3) := by decide +kernel
theorem dX3_refuse_4 : decode cX3_refuse 4 = .ok (.iload_n 1, 1) := by decide +kernel
theorem dX3_refuse_5 : decode cX3_refuse 5 = .ok (.bipush (-6), 2) := by decide +kernel
theorem dX3_refuse_7 : decode cX3_refuse 7 = .ok (.if_icmp .lt 14, 3) := by decide +kernel
theorem dX3_refuse_10 : decode cX3_refuse 10 = .ok (.aload_n 0, 1) := by decide +kernel
theorem dX3_refuse_11 : decode cX3_refuse 11 = .ok (.getfield 41, 3) := by decide +kernel
theorem dX3_refuse_14 : decode cX3_refuse 14 = .ok (.iload_n 1, 1) := by decide +kernel
theorem dX3_refuse_15 : decode cX3_refuse 15 = .ok (.ineg, 1) := by decide +kernel
theorem dX3_refuse_16 : decode cX3_refuse 16 = .ok (.dup2, 1) := by decide +kernel
theorem dX3_refuse_17 : decode cX3_refuse 17 = .ok (.iaload, 1) := by decide +kernel
theorem dX3_refuse_18 : decode cX3_refuse 18 = .ok (.iconst 1, 1) := by decide +kernel
theorem dX3_refuse_19 : decode cX3_refuse 19 = .ok (.iadd, 1) := by decide +kernel
theorem dX3_refuse_20 : decode cX3_refuse 20 = .ok (.iastore, 1) := by decide +kernel
theorem dX3_refuse_21 : decode cX3_refuse 21 = .ok (.iload_n 1, 1) := by decide +kernel
theorem dX3_refuse_22 : decode cX3_refuse 22 = .ok (.ireturn, 1) := by decide +kernel
theorem dX3_outside_0 : decode cX3_outside 0 = .ok (.iload_n 0, 1) := by decide +kernel
theorem dX3_outside_1 : decode cX3_outside 1 = .ok (.iload_n 1, 1) := by decide +kernel
theorem dX3_outside_2 : decode cX3_outside 2 = .ok (.if_icmp .ge 6, 3) := by decide +kernel
theorem dX3_outside_5 : decode cX3_outside 5 = .ok (.bipush (-4), 2) := by decide +kernel
theorem dX3_outside_7 : decode cX3_outside 7 = .ok (.ireturn, 1) := by decide +kernel
theorem dX3_outside_8 : decode cX3_outside 8 = .ok (.iload_n 0, 1) := by decide +kernel
theorem dX3_outside_9 : decode cX3_outside 9 = .ok (.iload_n 2, 1) := by decide +kernel
theorem dX3_outside_10 : decode cX3_outside 10 = .ok (.if_icmp .le 8, 3) := by decide +kernel
theorem dX3_outside_13 : decode cX3_outside 13 = .ok (.bipush (-6), 2) := by decide +kernel
theorem dX3_outside_15 : decode cX3_outside 15 = .ok (.goto 4, 3) := by decide +kernel
theorem dX3_outside_18 : decode cX3_outside 18 = .ok (.iconst 0, 1) := by decide +kernel
theorem dX3_outside_19 : decode cX3_outside 19 = .ok (.ireturn, 1) := by decide +kernel
