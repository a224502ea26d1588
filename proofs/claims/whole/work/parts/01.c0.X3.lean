set_option maxRecDepth 20000 in
theorem ggX3_init_X2_init : GoodIn wsX3_init wsX2_init := goodIn_r _ [26, 27, 2, 3, 15, 28, 29, 30, 31, 32, 33, 34, 35, 36, 37, 47, 48, 49, 50, 51, 52, 53, 54, 55, 56] (by decide +kernel) (by decide +kernel)
set_option maxRecDepth 20000 in
theorem gX3_init_X2_init_n9 : GoodIn wsX3_init (wsX2_init) := ggX3_init_X2_init
set_option maxRecDepth 20000 in
theorem ggX3_init_X0_init : GoodIn wsX3_init wsX0_init := goodIn_r _ [39, 40, 2, 3, 15, 41, 42, 68, 69] (by decide +kernel) (by decide +kernel)
set_option maxRecDepth 20000 in
theorem gX3_init_X0_init_n28 : GoodIn wsX3_init (wsX0_init) := ggX3_init_X0_init
set_option maxRecDepth 20000 in
theorem ggX3_init_X1_init : GoodIn wsX3_init wsX1_init := goodIn_r _ [44, 45, 2, 3, 15, 46, 70] (by decide +kernel) (by decide +kernel)
set_option maxRecDepth 20000 in
theorem gX3_init_X1_init_n46 : GoodIn wsX3_init (wsX1_init) := ggX3_init_X1_init
theorem dX3_init_0 : decode cX3_init 0 = .ok (.aload_n 0, 1) := by decide +kernel
theorem dX3_init_1 : decode cX3_init 1 = .ok (.invokespecial 1, 3) := by decide +kernel
theorem dX3_init_4 : decode cX3_init 4 = .ok (.aload_n 0, 1) := by decide +kernel
theorem dX3_init_5 : decode cX3_init 5 = .ok (.new 7, 3) := by decide +kernel
theorem dX3_init_8 : decode cX3_init 8 = .ok (.dup, 1) := by decide +kernel
theorem dX3_init_9 : decode cX3_init 9 = .ok (.invokespecial 9, 3) := by decide +kernel
theorem dX3_init_12 : decode cX3_init 12 = .ok (.putfield 10, 3) := by decide +kernel
theorem dX3_init_15 : decode cX3_init 15 = .ok (.aload_n 0, 1) := by decide +kernel
theorem dX3_init_16 : decode cX3_init 16 = .ok (.new 7, 3) := by decide +kernel
theorem dX3_init_19 : decode cX3_init 19 = .ok (.dup, 1) := by decide +kernel
theorem dX3_init_20 : decode cX3_init 20 = .ok (.invokespecial 9, 3) := by decide +kernel
theorem dX3_init_23 : decode cX3_init 23 = .ok (.putfield 16, 3) := by decide +kernel
theorem dX3_init_26 : decode cX3_init 26 = .ok (.aload_n 0, 1) := by decide +kernel
theorem dX3_init_27 : decode cX3_init 27 = .ok (.new 7, 3) := by decide +kernel
theorem dX3_init_30 : decode cX3_init 30 = .ok (.dup, 1) := by decide +kernel
theorem dX3_init_31 : decode cX3_init 31 = .ok (.invokespecial 9, 3) := by decide +kernel
theorem dX3_init_34 : decode cX3_init 34 = .ok (.putfield 19, 3) := by decide +kernel
theorem dX3_init_37 : decode cX3_init 37 = .ok (.aload_n 0, 1) := by decide +kernel
theorem dX3_init_38 : decode cX3_init 38 = .ok (.iconst 0, 1) := by decide +kernel
theorem dX3_init_39 : decode cX3_init 39 = .ok (.putfield 22, 3) := by decide +kernel
theorem dX3_init_42 : decode cX3_init 42 = .ok (.aload_n 0, 1) := by decide +kernel
theorem dX3_init_43 : decode cX3_init 43 = .ok (.new 26, 3) := by decide +kernel
theorem dX3_init_46 : decode cX3_init 46 = .ok (.dup, 1) := by decide +kernel
theorem dX3_init_47 : decode cX3_init 47 = .ok (.invokespecial 28, 3) := by decide +kernel
theorem dX3_init_50 : decode cX3_init 50 = .ok (.putfield 29, 3) := by decide +kernel
theorem dX3_init_53 : decode cX3_init 53 = .ok (.aload_n 0, 1) := by decide +kernel
theorem dX3_init_54 : decode cX3_init 54 = .ok (.bipush 16, 2) := by decide +kernel
theorem dX3_init_56 : decode cX3_init 56 = .ok (.newarray .int, 2) := by decide +kernel
theorem dX3_init_58 : decode cX3_init 58 = .ok (.putfield 33, 3) := by decide +kernel
theorem dX3_init_61 : decode cX3_init 61 = .ok (.aload_n 0, 1) := by decide +kernel
theorem dX3_init_62 : decode cX3_init 62 = .ok (.iconst 0, 1) := by decide +kernel
theorem dX3_init_63 : decode cX3_init 63 = .ok (.putfield 37, 3) := by decide +kernel
theorem dX3_init_66 : decode cX3_init 66 = .ok (.aload_n 0, 1) := by decide +kernel
theorem dX3_init_67 : decode cX3_init 67 = .ok (.bipush 7, 2) := by decide +kernel
theorem dX3_init_69 : decode cX3_init 69 = .ok (.newarray .int, 2) := by decide +kernel
theorem dX3_init_71 : decode cX3_init 71 = .ok (.putfield 41, 3) := by decide +kernel
theorem dX3_init_74 : decode cX3_init 74 = .ok (.aload_n 0, 1) := by decide +kernel
theorem dX3_init_75 : decode cX3_init 75 = .ok (.new 44, 3) := by decide +kernel
theorem dX3_init_78 : decode cX3_init 78 = .ok (.dup, 1) := by decide +kernel
theorem dX3_init_79 : decode cX3_init 79 = .ok (.invokespecial 46, 3) := by decide +kernel
theorem dX3_init_82 : decode cX3_init 82 = .ok (.putfield 47, 3) := by decide +kernel
theorem dX3_init_85 : decode cX3_init 85 = .ok (.aload_n 0, 1) := by decide +kernel
theorem dX3_init_86 : decode cX3_init 86 = .ok (.iconst 4, 1) := by decide +kernel
theorem dX3_init_87 : decode cX3_init 87 = .ok (.newarray .int, 2) := by decide +kernel
theorem dX3_init_89 : decode cX3_init 89 = .ok (.putfield 51, 3) := by decide +kernel
theorem dX3_init_92 : decode cX3_init 92 = .ok (.aload_n 0, 1) := by decide +kernel
theorem dX3_init_93 : decode cX3_init 93 = .ok (.iconst 4, 1) := by decide +kernel
theorem dX3_init_94 : decode cX3_init 94 = .ok (.newarray .int, 2) := by decide +kernel
theorem dX3_init_96 : decode cX3_init 96 = .ok (.putfield 54, 3) := by decide +kernel
theorem dX3_init_99 : decode cX3_init 99 = .ok (.return_, 1) := by decide +kernel
set_option maxRecDepth 20000 in
theorem ggX3_letter_X3_refuse : GoodIn wsX3_letter wsX3_refuse := goodIn_r _ [6, 7, 20, 21, 22, 23, 24, 25, 26, 27, 28, 29, 30] (by decide +kernel) (by decide +kernel)
set_option maxRecDepth 20000 in
theorem gX3_letter_X3_refuse : GoodIn wsX3_letter (wsV RX3 57 RX3 yX3_refuse wsX3_refuse) := goodIn_app (goodIn_of _ (by decide +kernel)) ggX3_letter_X3_refuse
set_option maxRecDepth 20000 in
theorem ggX3_letter_X0_hasRoom : GoodIn wsX3_letter wsX0_hasRoom := goodIn_r _ [12, 13, 31, 32] (by decide +kernel) (by decide +kernel)
set_option maxRecDepth 20000 in
theorem gX3_letter_X0_hasRoom : GoodIn wsX3_letter (wsV RX3 61 RX0 yX0_hasRoom wsX0_hasRoom) := goodIn_app (goodIn_of _ (by decide +kernel)) ggX3_letter_X0_hasRoom
set_option maxRecDepth 20000 in
theorem ggX3_letter_X0_take : GoodIn wsX3_letter wsX0_take := goodIn_r _ [17, 18, 13, 19, 9, 10, 11, 12, 31, 32] (by decide +kernel) (by decide +kernel)
set_option maxRecDepth 20000 in
theorem gX3_letter_X0_take : GoodIn wsX3_letter (wsV RX3 65 RX0 yX0_take wsX0_take) := goodIn_app (goodIn_of _ (by decide +kernel)) ggX3_letter_X0_take
theorem dX3_letter_0 : decode cX3_letter 0 = .ok (.iload_n 1, 1) := by decide +kernel
theorem dX3_letter_1 : decode cX3_letter 1 = .ok (.ifCond .ge 10, 3) := by decide +kernel
theorem dX3_letter_4 : decode cX3_letter 4 = .ok (.aload_n 0, 1) := by decide +kernel
theorem dX3_letter_5 : decode cX3_letter 5 = .ok (.bipush (-4), 2) := by decide +kernel
theorem dX3_letter_7 : decode cX3_letter 7 = .ok (.invokevirtual 57, 3) := by decide +kernel
theorem dX3_letter_10 : decode cX3_letter 10 = .ok (.ireturn, 1) := by decide +kernel
theorem dX3_letter_11 : decode cX3_letter 11 = .ok (.iload_n 1, 1) := by decide +kernel
theorem dX3_letter_12 : decode cX3_letter 12 = .ok (.sipush 255, 3) := by decide +kernel
theorem dX3_letter_15 : decode cX3_letter 15 = .ok (.if_icmp .gt 13, 3) := by decide +kernel
theorem dX3_letter_18 : decode cX3_letter 18 = .ok (.aload_n 0, 1) := by decide +kernel
theorem dX3_letter_19 : decode cX3_letter 19 = .ok (.getfield 29, 3) := by decide +kernel
theorem dX3_letter_22 : decode cX3_letter 22 = .ok (.invokevirtual 61, 3) := by decide +kernel
theorem dX3_letter_25 : decode cX3_letter 25 = .ok (.ifCond .ne 10, 3) := by decide +kernel
theorem dX3_letter_28 : decode cX3_letter 28 = .ok (.aload_n 0, 1) := by decide +kernel
theorem dX3_letter_29 : decode cX3_letter 29 = .ok (.bipush (-6), 2) := by decide +kernel
theorem dX3_letter_31 : decode cX3_letter 31 = .ok (.invokevirtual 57, 3) := by decide +kernel
theorem dX3_letter_34 : decode cX3_letter 34 = .ok (.ireturn, 1) := by decide +kernel
theorem dX3_letter_35 : decode cX3_letter 35 = .ok (.aload_n 0, 1) := by decide +kernel
theorem dX3_letter_36 : decode cX3_letter 36 = .ok (.getfield 29, 3) := by decide +kernel
theorem dX3_letter_39 : decode cX3_letter 39 = .ok (.iload_n 1, 1) := by decide +kernel
theorem dX3_letter_40 : decode cX3_letter 40 = .ok (.invokevirtual 65, 3) := by decide +kernel
theorem dX3_letter_43 : decode cX3_letter 43 = .ok (.ireturn, 1) := by decide +kernel
set_option maxRecDepth 20000 in
theorem ggX3_lane_X2_become : GoodIn wsX3_lane wsX2_become := goodIn_r _ [8, 9, 10, 11, 12, 13, 14, 15, 16, 17, 18, 19, 20, 21, 22, 137, 138, 139, 140, 141, 142, 143, 144, 145, 146] (by decide +kernel) (by decide +kernel)
set_option maxRecDepth 20000 in
theorem gX3_lane_X2_become : GoodIn wsX3_lane (wsV RX3 68 RX2 yX2_become wsX2_become) := goodIn_app (goodIn_of _ (by decide +kernel)) ggX3_lane_X2_become
set_option maxRecDepth 20000 in
theorem ggX3_lane_X0_formFault : GoodIn wsX3_lane wsX0_formFault := goodIn_r _ [27, 28, 29, 30, 31, 26, 32, 33, 34, 35, 36, 37, 38, 39, 40, 41, 42, 43, 147, 148] (by decide +kernel) (by decide +kernel)
set_option maxRecDepth 20000 in
theorem gX3_lane_X0_formFault : GoodIn wsX3_lane (wsV RX3 72 RX0 yX0_formFault wsX0_formFault) := goodIn_app (goodIn_of _ (by decide +kernel)) ggX3_lane_X0_formFault
set_option maxRecDepth 20000 in
theorem ggX3_lane_X0_tellTo : GoodIn wsX3_lane wsX0_tellTo := goodIn_r _ [47, 28, 48, 49, 50, 26, 51, 52, 29, 30, 31, 32, 33, 53, 54, 55, 7, 56, 20, 9, 14, 41, 42, 43, 57, 58, 59, 60, 21, 15, 16, 17, 18, 19, 61, 62, 63, 64, 65, 66, 67, 68, 69, 70, 71, 72, 73, 74, 75, 76, 77, 78, 79, 80, 81, 22, 82, 83, 84, 85, 86, 87, 88, 89, 90, 91, 92, 93, 94, 95, 96, 97, 98, 99, 100, 101, 102, 103, 104, 105, 106, 107, 108, 109, 110, 111, 112, 113, 114, 115, 116, 117, 118, 119, 120, 121, 34, 35, 36, 147, 148, 137, 138, 139, 140, 141, 142, 143, 144, 145, 146] (by decide +kernel) (by decide +kernel)
set_option maxRecDepth 20000 in
theorem gX3_lane_X0_tellTo : GoodIn wsX3_lane (wsV RX3 76 RX0 yX0_tellTo wsX0_tellTo) := goodIn_app (goodIn_of _ (by decide +kernel)) ggX3_lane_X0_tellTo
set_option maxRecDepth 20000 in
theorem ggX3_lane_X0_forget : GoodIn wsX3_lane wsX0_forget := goodIn_r _ [125, 28, 147, 148] (by decide +kernel) (by decide +kernel)
set_option maxRecDepth 20000 in
theorem gX3_lane_X0_forget : GoodIn wsX3_lane (wsV RX3 80 RX0 yX0_forget wsX0_forget) := goodIn_app (goodIn_of _ (by decide +kernel)) ggX3_lane_X0_forget
theorem dX3_lane_0 : decode cX3_lane 0 = .ok (.aload_n 0, 1) := by decide +kernel
theorem dX3_lane_1 : decode cX3_lane 1 = .ok (.getfield 16, 3) := by decide +kernel
theorem dX3_lane_4 : decode cX3_lane 4 = .ok (.aload_n 0, 1) := by decide +kernel
theorem dX3_lane_5 : decode cX3_lane 5 = .ok (.getfield 10, 3) := by decide +kernel
theorem dX3_lane_8 : decode cX3_lane 8 = .ok (.invokevirtual 68, 3) := by decide +kernel
theorem dX3_lane_11 : decode cX3_lane 11 = .ok (.aload_n 0, 1) := by decide +kernel
theorem dX3_lane_12 : decode cX3_lane 12 = .ok (.getfield 29, 3) := by decide +kernel
theorem dX3_lane_15 : decode cX3_lane 15 = .ok (.invokevirtual 72, 3) := by decide +kernel
theorem dX3_lane_18 : decode cX3_lane 18 = .ok (.istore_n 1, 1) := by decide +kernel
theorem dX3_lane_19 : decode cX3_lane 19 = .ok (.iload_n 1, 1) := by decide +kernel
theorem dX3_lane_20 : decode cX3_lane 20 = .ok (.bipush (-9), 2) := by decide +kernel
theorem dX3_lane_22 : decode cX3_lane 22 = .ok (.if_icmp .ne 17, 3) := by decide +kernel
theorem dX3_lane_25 : decode cX3_lane 25 = .ok (.aload_n 0, 1) := by decide +kernel
theorem dX3_lane_26 : decode cX3_lane 26 = .ok (.getfield 29, 3) := by decide +kernel
theorem dX3_lane_29 : decode cX3_lane 29 = .ok (.aload_n 0, 1) := by decide +kernel
theorem dX3_lane_30 : decode cX3_lane 30 = .ok (.getfield 16, 3) := by decide +kernel
theorem dX3_lane_33 : decode cX3_lane 33 = .ok (.invokevirtual 76, 3) := by decide +kernel
theorem dX3_lane_36 : decode cX3_lane 36 = .ok (.goto 8, 3) := by decide +kernel
theorem dX3_lane_39 : decode cX3_lane 39 = .ok (.sipush (-1000), 3) := by decide +kernel
theorem dX3_lane_42 : decode cX3_lane 42 = .ok (.iload_n 1, 1) := by decide +kernel
theorem dX3_lane_43 : decode cX3_lane 43 = .ok (.isub, 1) := by decide +kernel
theorem dX3_lane_44 : decode cX3_lane 44 = .ok (.istore_n 2, 1) := by decide +kernel
theorem dX3_lane_45 : decode cX3_lane 45 = .ok (.iload_n 2, 1) := by decide +kernel
theorem dX3_lane_46 : decode cX3_lane 46 = .ok (.ifCond .le 14, 3) := by decide +kernel
theorem dX3_lane_49 : decode cX3_lane 49 = .ok (.aload_n 0, 1) := by decide +kernel
theorem dX3_lane_50 : decode cX3_lane 50 = .ok (.getfield 10, 3) := by decide +kernel
theorem dX3_lane_53 : decode cX3_lane 53 = .ok (.aload_n 0, 1) := by decide +kernel
theorem dX3_lane_54 : decode cX3_lane 54 = .ok (.getfield 16, 3) := by decide +kernel
theorem dX3_lane_57 : decode cX3_lane 57 = .ok (.invokevirtual 68, 3) := by decide +kernel
theorem dX3_lane_60 : decode cX3_lane 60 = .ok (.aload_n 0, 1) := by decide +kernel
theorem dX3_lane_61 : decode cX3_lane 61 = .ok (.getfield 29, 3) := by decide +kernel
theorem dX3_lane_64 : decode cX3_lane 64 = .ok (.invokevirtual 80, 3) := by decide +kernel
theorem dX3_lane_67 : decode cX3_lane 67 = .ok (.iload_n 2, 1) := by decide +kernel
theorem dX3_lane_68 : decode cX3_lane 68 = .ok (.ireturn, 1) := by decide +kernel
set_option maxRecDepth 20000 in
theorem ggX3_person_X2_isPerson : GoodIn wsX3_person wsX2_isPerson := goodIn_r _ [8, 9, 38, 39, 40, 41, 42, 43, 44, 45, 46, 47] (by decide +kernel) (by decide +kernel)
set_option maxRecDepth 20000 in
theorem gX3_person_X2_isPerson : GoodIn wsX3_person (wsV RX3 83 RX2 yX2_isPerson wsX2_isPerson) := goodIn_app (goodIn_of _ (by decide +kernel)) ggX3_person_X2_isPerson
set_option maxRecDepth 20000 in
theorem ggX3_person_X3_refuse : GoodIn wsX3_person wsX3_refuse := goodIn_r _ [14, 15, 27, 28, 29, 30, 31, 32, 33, 34, 35, 36, 37] (by decide +kernel) (by decide +kernel)
set_option maxRecDepth 20000 in
theorem gX3_person_X3_refuse : GoodIn wsX3_person (wsV RX3 57 RX3 yX3_refuse wsX3_refuse) := goodIn_app (goodIn_of _ (by decide +kernel)) ggX3_person_X3_refuse
set_option maxRecDepth 20000 in
theorem ggX3_person_X2_ownedBy : GoodIn wsX3_person wsX2_ownedBy := goodIn_r _ [19, 20, 21, 38, 39, 40, 41, 42, 43, 44, 45, 46, 47] (by decide +kernel) (by decide +kernel)
set_option maxRecDepth 20000 in
theorem gX3_person_X2_ownedBy : GoodIn wsX3_person (wsV RX3 93 RX2 yX2_ownedBy wsX2_ownedBy) := goodIn_app (goodIn_of _ (by decide +kernel)) ggX3_person_X2_ownedBy
set_option maxRecDepth 20000 in
theorem ggX3_person_X2_brokenBy : GoodIn wsX3_person wsX2_brokenBy := goodIn_r _ [25, 20, 26, 38, 39, 40, 41, 42, 43, 44, 45, 46, 47] (by decide +kernel) (by decide +kernel)
set_option maxRecDepth 20000 in
theorem gX3_person_X2_brokenBy : GoodIn wsX3_person (wsV RX3 96 RX2 yX2_brokenBy wsX2_brokenBy) := goodIn_app (goodIn_of _ (by decide +kernel)) ggX3_person_X2_brokenBy
theorem dX3_person_0 : decode cX3_person 0 = .ok (.aload_n 0, 1) := by decide +kernel
theorem dX3_person_1 : decode cX3_person 1 = .ok (.getfield 10, 3) := by decide +kernel
theorem dX3_person_4 : decode cX3_person 4 = .ok (.iload_n 1, 1) := by decide +kernel
theorem dX3_person_5 : decode cX3_person 5 = .ok (.invokevirtual 83, 3) := by decide +kernel
theorem dX3_person_8 : decode cX3_person 8 = .ok (.ifCond .ne 9, 3) := by decide +kernel
theorem dX3_person_11 : decode cX3_person 11 = .ok (.aload_n 0, 1) := by decide +kernel
theorem dX3_person_12 : decode cX3_person 12 = .ok (.iconst (-1), 1) := by decide +kernel
theorem dX3_person_13 : decode cX3_person 13 = .ok (.invokevirtual 57, 3) := by decide +kernel
theorem dX3_person_16 : decode cX3_person 16 = .ok (.ireturn, 1) := by decide +kernel
theorem dX3_person_17 : decode cX3_person 17 = .ok (.iload_n 2, 1) := by decide +kernel
theorem dX3_person_18 : decode cX3_person 18 = .ok (.tableswitch 68 0 3 #[30, 40, 50, 59], 30) := by decide +kernel
theorem dX3_person_48 : decode cX3_person 48 = .ok (.aload_n 0, 1) := by decide +kernel
theorem dX3_person_49 : decode cX3_person 49 = .ok (.getfield 10, 3) := by decide +kernel
theorem dX3_person_52 : decode cX3_person 52 = .ok (.getfield 87, 3) := by decide +kernel
theorem dX3_person_55 : decode cX3_person 55 = .ok (.iload_n 1, 1) := by decide +kernel
theorem dX3_person_56 : decode cX3_person 56 = .ok (.iaload, 1) := by decide +kernel
theorem dX3_person_57 : decode cX3_person 57 = .ok (.ireturn, 1) := by decide +kernel
theorem dX3_person_58 : decode cX3_person 58 = .ok (.aload_n 0, 1) := by decide +kernel
theorem dX3_person_59 : decode cX3_person 59 = .ok (.getfield 10, 3) := by decide +kernel
theorem dX3_person_62 : decode cX3_person 62 = .ok (.getfield 90, 3) := by decide +kernel
theorem dX3_person_65 : decode cX3_person 65 = .ok (.iload_n 1, 1) := by decide +kernel
theorem dX3_person_66 : decode cX3_person 66 = .ok (.iaload, 1) := by decide +kernel
theorem dX3_person_67 : decode cX3_person 67 = .ok (.ireturn, 1) := by decide +kernel
theorem dX3_person_68 : decode cX3_person 68 = .ok (.aload_n 0, 1) := by decide +kernel
theorem dX3_person_69 : decode cX3_person 69 = .ok (.getfield 10, 3) := by decide +kernel
theorem dX3_person_72 : decode cX3_person 72 = .ok (.iload_n 1, 1) := by decide +kernel
theorem dX3_person_73 : decode cX3_person 73 = .ok (.invokevirtual 93, 3) := by decide +kernel
theorem dX3_person_76 : decode cX3_person 76 = .ok (.ireturn, 1) := by decide +kernel
theorem dX3_person_77 : decode cX3_person 77 = .ok (.aload_n 0, 1) := by decide +kernel
theorem dX3_person_78 : decode cX3_person 78 = .ok (.getfield 10, 3) := by decide +kernel
theorem dX3_person_81 : decode cX3_person 81 = .ok (.iload_n 1, 1) := by decide +kernel
theorem dX3_person_82 : decode cX3_person 82 = .ok (.invokevirtual 96, 3) := by decide +kernel
theorem dX3_person_85 : decode cX3_person 85 = .ok (.ireturn, 1) := by decide +kernel
theorem dX3_person_86 : decode cX3_person 86 = .ok (.aload_n 0, 1) := by decide +kernel
theorem dX3_person_87 : decode cX3_person 87 = .ok (.bipush (-2), 2) := by decide +kernel
theorem dX3_person_89 : decode cX3_person 89 = .ok (.invokevirtual 57, 3) := by decide +kernel
theorem dX3_person_92 : decode cX3_person 92 = .ok (.ireturn, 1) := by decide +kernel
set_option maxRecDepth 20000 in
theorem ggX3_thing_X2_isThing : GoodIn wsX3_thing wsX2_isThing := goodIn_r _ [12, 13, 52, 53, 54, 55, 56, 57, 58, 59, 60, 61] (by decide +kernel) (by decide +kernel)
set_option maxRecDepth 20000 in
theorem gX3_thing_X2_isThing : GoodIn wsX3_thing (wsV RX3 99 RX2 yX2_isThing wsX2_isThing) := goodIn_app (goodIn_of _ (by decide +kernel)) ggX3_thing_X2_isThing
set_option maxRecDepth 20000 in
theorem ggX3_thing_X3_refuse : GoodIn wsX3_thing wsX3_refuse := goodIn_r _ [18, 19, 41, 42, 43, 44, 45, 46, 47, 48, 49, 50, 51] (by decide +kernel) (by decide +kernel)
set_option maxRecDepth 20000 in
theorem gX3_thing_X3_refuse : GoodIn wsX3_thing (wsV RX3 57 RX3 yX3_refuse wsX3_refuse) := goodIn_app (goodIn_of _ (by decide +kernel)) ggX3_thing_X3_refuse
set_option maxRecDepth 20000 in
theorem ggX3_thing_X2_hardOf : GoodIn wsX3_thing wsX2_hardOf := goodIn_r _ [23, 24, 25, 26, 27, 28, 29, 30, 31, 32, 33, 34, 11, 35, 36, 52, 53, 54, 55, 56, 57, 58, 59, 60, 61] (by decide +kernel) (by decide +kernel)
set_option maxRecDepth 20000 in
theorem gX3_thing_X2_hardOf : GoodIn wsX3_thing (wsV RX3 117 RX2 yX2_hardOf wsX2_hardOf) := goodIn_app (goodIn_of _ (by decide +kernel)) ggX3_thing_X2_hardOf
set_option maxRecDepth 20000 in
theorem ggX3_thing_X2_moreWearOf : GoodIn wsX3_thing wsX2_moreWearOf := goodIn_r _ [40, 30, 24, 52, 53, 54, 55, 56, 57, 58, 59, 60, 61] (by decide +kernel) (by decide +kernel)
set_option maxRecDepth 20000 in
theorem gX3_thing_X2_moreWearOf : GoodIn wsX3_thing (wsV RX3 123 RX2 yX2_moreWearOf wsX2_moreWearOf) := goodIn_app (goodIn_of _ (by decide +kernel)) ggX3_thing_X2_moreWearOf
theorem dX3_thing_0 : decode cX3_thing 0 = .ok (.aload_n 0, 1) := by decide +kernel
theorem dX3_thing_1 : decode cX3_thing 1 = .ok (.getfield 10, 3) := by decide +kernel
theorem dX3_thing_4 : decode cX3_thing 4 = .ok (.iload_n 1, 1) := by decide +kernel
theorem dX3_thing_5 : decode cX3_thing 5 = .ok (.invokevirtual 99, 3) := by decide +kernel
theorem dX3_thing_8 : decode cX3_thing 8 = .ok (.ifCond .ne 9, 3) := by decide +kernel
theorem dX3_thing_11 : decode cX3_thing 11 = .ok (.aload_n 0, 1) := by decide +kernel
theorem dX3_thing_12 : decode cX3_thing 12 = .ok (.iconst (-1), 1) := by decide +kernel
theorem dX3_thing_13 : decode cX3_thing 13 = .ok (.invokevirtual 57, 3) := by decide +kernel
theorem dX3_thing_16 : decode cX3_thing 16 = .ok (.ireturn, 1) := by decide +kernel
theorem dX3_thing_17 : decode cX3_thing 17 = .ok (.iload_n 2, 1) := by decide +kernel
theorem dX3_thing_18 : decode cX3_thing 18 = .ok (.tableswitch 119 0 6 #[42, 52, 62, 72, 82, 92, 101], 42) := by decide +kernel
theorem dX3_thing_60 : decode cX3_thing 60 = .ok (.aload_n 0, 1) := by decide +kernel
theorem dX3_thing_61 : decode cX3_thing 61 = .ok (.getfield 10, 3) := by decide +kernel
theorem dX3_thing_64 : decode cX3_thing 64 = .ok (.getfield 102, 3) := by decide +kernel
theorem dX3_thing_67 : decode cX3_thing 67 = .ok (.iload_n 1, 1) := by decide +kernel
theorem dX3_thing_68 : decode cX3_thing 68 = .ok (.iaload, 1) := by decide +kernel
theorem dX3_thing_69 : decode cX3_thing 69 = .ok (.ireturn, 1) := by decide +kernel
theorem dX3_thing_70 : decode cX3_thing 70 = .ok (.aload_n 0, 1) := by decide +kernel
theorem dX3_thing_71 : decode cX3_thing 71 = .ok (.getfield 10, 3) := by decide +kernel
theorem dX3_thing_74 : decode cX3_thing 74 = .ok (.getfield 105, 3) := by decide +kernel
theorem dX3_thing_77 : decode cX3_thing 77 = .ok (.iload_n 1, 1) := by decide +kernel
theorem dX3_thing_78 : decode cX3_thing 78 = .ok (.iaload, 1) := by decide +kernel
theorem dX3_thing_79 : decode cX3_thing 79 = .ok (.ireturn, 1) := by decide +kernel
theorem dX3_thing_80 : decode cX3_thing 80 = .ok (.aload_n 0, 1) := by decide +kernel
theorem dX3_thing_81 : decode cX3_thing 81 = .ok (.getfield 10, 3) := by decide +kernel
theorem dX3_thing_84 : decode cX3_thing 84 = .ok (.getfield 108, 3) := by decide +kernel
theorem dX3_thing_87 : decode cX3_thing 87 = .ok (.iload_n 1, 1) := by decide +kernel
theorem dX3_thing_88 : decode cX3_thing 88 = .ok (.iaload, 1) := by decide +kernel
theorem dX3_thing_89 : decode cX3_thing 89 = .ok (.ireturn, 1) := by decide +kernel
theorem dX3_thing_90 : decode cX3_thing 90 = .ok (.aload_n 0, 1) := by decide +kernel
theorem dX3_thing_91 : decode cX3_thing 91 = .ok (.getfield 10, 3) := by decide +kernel
theorem dX3_thing_94 : decode cX3_thing 94 = .ok (.getfield 111, 3) := by decide +kernel
theorem dX3_thing_97 : decode cX3_thing 97 = .ok (.iload_n 1, 1) := by decide +kernel
theorem dX3_thing_98 : decode cX3_thing 98 = .ok (.iaload, 1) := by decide +kernel
theorem dX3_thing_99 : decode cX3_thing 99 = .ok (.ireturn, 1) := by decide +kernel
theorem dX3_thing_100 : decode cX3_thing 100 = .ok (.aload_n 0, 1) := by decide +kernel
theorem dX3_thing_101 : decode cX3_thing 101 = .ok (.getfield 10, 3) := by decide +kernel
theorem dX3_thing_104 : decode cX3_thing 104 = .ok (.getfield 114, 3) := by decide +kernel
theorem dX3_thing_107 : decode cX3_thing 107 = .ok (.iload_n 1, 1) := by decide +kernel
theorem dX3_thing_108 : decode cX3_thing 108 = .ok (.iaload, 1) := by decide +kernel
theorem dX3_thing_109 : decode cX3_thing 109 = .ok (.ireturn, 1) := by decide +kernel
theorem dX3_thing_110 : decode cX3_thing 110 = .ok (.aload_n 0, 1) := by decide +kernel
theorem dX3_thing_111 : decode cX3_thing 111 = .ok (.getfield 10, 3) := by decide +kernel
theorem dX3_thing_114 : decode cX3_thing 114 = .ok (.iload_n 1, 1) := by decide +kernel
theorem dX3_thing_115 : decode cX3_thing 115 = .ok (.invokevirtual 117, 3) := by decide +kernel
theorem dX3_thing_118 : decode cX3_thing 118 = .ok (.ireturn, 1) := by decide +kernel
theorem dX3_thing_119 : decode cX3_thing 119 = .ok (.aload_n 0, 1) := by decide +kernel
theorem dX3_thing_120 : decode cX3_thing 120 = .ok (.getfield 10, 3) := by decide +kernel
theorem dX3_thing_123 : decode cX3_thing 123 = .ok (.iload_n 1, 1) := by decide +kernel
theorem dX3_thing_124 : decode cX3_thing 124 = .ok (.aload_n 0, 1) := by decide +kernel
theorem dX3_thing_125 : decode cX3_thing 125 = .ok (.getfield 10, 3) := by decide +kernel
theorem dX3_thing_128 : decode cX3_thing 128 = .ok (.getfield 120, 3) := by decide +kernel
theorem dX3_thing_131 : decode cX3_thing 131 = .ok (.iconst 1, 1) := by decide +kernel
theorem dX3_thing_132 : decode cX3_thing 132 = .ok (.iadd, 1) := by decide +kernel
theorem dX3_thing_133 : decode cX3_thing 133 = .ok (.invokevirtual 123, 3) := by decide +kernel
theorem dX3_thing_136 : decode cX3_thing 136 = .ok (.ireturn, 1) := by decide +kernel
theorem dX3_thing_137 : decode cX3_thing 137 = .ok (.aload_n 0, 1) := by decide +kernel
theorem dX3_thing_138 : decode cX3_thing 138 = .ok (.bipush (-2), 2) := by decide +kernel
theorem dX3_thing_140 : decode cX3_thing 140 = .ok (.invokevirtual 57, 3) := by decide +kernel
theorem dX3_thing_143 : decode cX3_thing 143 = .ok (.ireturn, 1) := by decide +kernel
set_option maxRecDepth 20000 in
theorem ggX3_breaks_X2_isPerson : GoodIn wsX3_breaks wsX2_isPerson := goodIn_r _ [7, 8, 52, 53, 54, 55, 56, 57, 58, 59, 60, 61] (by decide +kernel) (by decide +kernel)
set_option maxRecDepth 20000 in
theorem gX3_breaks_X2_isPerson : GoodIn wsX3_breaks (wsV RX3 83 RX2 yX2_isPerson wsX2_isPerson) := goodIn_app (goodIn_of _ (by decide +kernel)) ggX3_breaks_X2_isPerson
set_option maxRecDepth 20000 in
theorem ggX3_breaks_X2_isThing : GoodIn wsX3_breaks wsX2_isThing := goodIn_r _ [12, 13, 52, 53, 54, 55, 56, 57, 58, 59, 60, 61] (by decide +kernel) (by decide +kernel)
set_option maxRecDepth 20000 in
theorem gX3_breaks_X2_isThing : GoodIn wsX3_breaks (wsV RX3 99 RX2 yX2_isThing wsX2_isThing) := goodIn_app (goodIn_of _ (by decide +kernel)) ggX3_breaks_X2_isThing
set_option maxRecDepth 20000 in
theorem ggX3_breaks_X3_refuse : GoodIn wsX3_breaks wsX3_refuse := goodIn_r _ [18, 19, 41, 42, 43, 44, 45, 46, 47, 48, 49, 50, 51] (by decide +kernel) (by decide +kernel)
set_option maxRecDepth 20000 in
theorem gX3_breaks_X3_refuse : GoodIn wsX3_breaks (wsV RX3 57 RX3 yX3_refuse wsX3_refuse) := goodIn_app (goodIn_of _ (by decide +kernel)) ggX3_breaks_X3_refuse
set_option maxRecDepth 20000 in
theorem ggX3_breaks_X2_isWhole : GoodIn wsX3_breaks wsX2_isWhole := goodIn_r _ [23, 24, 52, 53, 54, 55, 56, 57, 58, 59, 60, 61] (by decide +kernel) (by decide +kernel)
set_option maxRecDepth 20000 in
theorem gX3_breaks_X2_isWhole : GoodIn wsX3_breaks (wsV RX3 127 RX2 yX2_isWhole wsX2_isWhole) := goodIn_app (goodIn_of _ (by decide +kernel)) ggX3_breaks_X2_isWhole
set_option maxRecDepth 20000 in
theorem ggX3_breaks_X2_wholeCount : GoodIn wsX3_breaks wsX2_wholeCount := goodIn_r _ [28, 29, 30, 31, 6, 32, 13, 33, 21, 22, 23, 24, 34, 35, 36, 37, 38, 39, 40, 52, 53, 54, 55, 56, 57, 58, 59, 60, 61] (by decide +kernel) (by decide +kernel)
set_option maxRecDepth 20000 in
theorem gX3_breaks_X2_wholeCount : GoodIn wsX3_breaks (wsV RX3 130 RX2 yX2_wholeCount wsX2_wholeCount) := goodIn_app (goodIn_of _ (by decide +kernel)) ggX3_breaks_X2_wholeCount
theorem dX3_breaks_0 : decode cX3_breaks 0 = .ok (.aload_n 0, 1) := by decide +kernel
theorem dX3_breaks_1 : decode cX3_breaks 1 = .ok (.getfield 10, 3) := by decide +kernel
theorem dX3_breaks_4 : decode cX3_breaks 4 = .ok (.iload_n 1, 1) := by decide +kernel
theorem dX3_breaks_5 : decode cX3_breaks 5 = .ok (.invokevirtual 83, 3) := by decide +kernel
theorem dX3_breaks_8 : decode cX3_breaks 8 = .ok (.ifCond .eq 14, 3) := by decide +kernel
theorem dX3_breaks_11 : decode cX3_breaks 11 = .ok (.aload_n 0, 1) := by decide +kernel
theorem dX3_breaks_12 : decode cX3_breaks 12 = .ok (.getfield 10, 3) := by decide +kernel
theorem dX3_breaks_15 : decode cX3_breaks 15 = .ok (.iload_n 2, 1) := by decide +kernel
theorem dX3_breaks_16 : decode cX3_breaks 16 = .ok (.invokevirtual 99, 3) := by decide +kernel
theorem dX3_breaks_19 : decode cX3_breaks 19 = .ok (.ifCond .ne 9, 3) := by decide +kernel
theorem dX3_breaks_22 : decode cX3_breaks 22 = .ok (.aload_n 0, 1) := by decide +kernel
theorem dX3_breaks_23 : decode cX3_breaks 23 = .ok (.iconst (-1), 1) := by decide +kernel
theorem dX3_breaks_24 : decode cX3_breaks 24 = .ok (.invokevirtual 57, 3) := by decide +kernel
theorem dX3_breaks_27 : decode cX3_breaks 27 = .ok (.ireturn, 1) := by decide +kernel
theorem dX3_breaks_28 : decode cX3_breaks 28 = .ok (.aload_n 0, 1) := by decide +kernel
theorem dX3_breaks_29 : decode cX3_breaks 29 = .ok (.getfield 10, 3) := by decide +kernel
theorem dX3_breaks_32 : decode cX3_breaks 32 = .ok (.iload_n 2, 1) := by decide +kernel
theorem dX3_breaks_33 : decode cX3_breaks 33 = .ok (.invokevirtual 127, 3) := by decide +kernel
theorem dX3_breaks_36 : decode cX3_breaks 36 = .ok (.ifCond .ne 10, 3) := by decide +kernel
theorem dX3_breaks_39 : decode cX3_breaks 39 = .ok (.aload_n 0, 1) := by decide +kernel
theorem dX3_breaks_40 : decode cX3_breaks 40 = .ok (.bipush (-3), 2) := by decide +kernel
theorem dX3_breaks_42 : decode cX3_breaks 42 = .ok (.invokevirtual 57, 3) := by decide +kernel
theorem dX3_breaks_45 : decode cX3_breaks 45 = .ok (.ireturn, 1) := by decide +kernel
theorem dX3_breaks_46 : decode cX3_breaks 46 = .ok (.aload_n 0, 1) := by decide +kernel
theorem dX3_breaks_47 : decode cX3_breaks 47 = .ok (.getfield 10, 3) := by decide +kernel
theorem dX3_breaks_50 : decode cX3_breaks 50 = .ok (.getfield 114, 3) := by decide +kernel
theorem dX3_breaks_53 : decode cX3_breaks 53 = .ok (.iload_n 2, 1) := by decide +kernel
theorem dX3_breaks_54 : decode cX3_breaks 54 = .ok (.iload_n 1, 1) := by decide +kernel
theorem dX3_breaks_55 : decode cX3_breaks 55 = .ok (.iastore, 1) := by decide +kernel
theorem dX3_breaks_56 : decode cX3_breaks 56 = .ok (.aload_n 0, 1) := by decide +kernel
theorem dX3_breaks_57 : decode cX3_breaks 57 = .ok (.getfield 10, 3) := by decide +kernel
theorem dX3_breaks_60 : decode cX3_breaks 60 = .ok (.invokevirtual 130, 3) := by decide +kernel
theorem dX3_breaks_63 : decode cX3_breaks 63 = .ok (.ireturn, 1) := by decide +kernel
set_option maxRecDepth 20000 in
theorem ggX3_rusts_X2_isThing : GoodIn wsX3_rusts wsX2_isThing := goodIn_r _ [7, 8, 47, 48, 49, 50, 51, 52, 53, 54, 55, 56] (by decide +kernel) (by decide +kernel)
set_option maxRecDepth 20000 in
theorem gX3_rusts_X2_isThing : GoodIn wsX3_rusts (wsV RX3 99 RX2 yX2_isThing wsX2_isThing) := goodIn_app (goodIn_of _ (by decide +kernel)) ggX3_rusts_X2_isThing
set_option maxRecDepth 20000 in
theorem ggX3_rusts_X3_refuse : GoodIn wsX3_rusts wsX3_refuse := goodIn_r _ [13, 14, 36, 37, 38, 39, 40, 41, 42, 43, 44, 45, 46] (by decide +kernel) (by decide +kernel)
set_option maxRecDepth 20000 in
theorem gX3_rusts_X3_refuse : GoodIn wsX3_rusts (wsV RX3 57 RX3 yX3_refuse wsX3_refuse) := goodIn_app (goodIn_of _ (by decide +kernel)) ggX3_rusts_X3_refuse
set_option maxRecDepth 20000 in
theorem ggX3_rusts_X2_isWhole : GoodIn wsX3_rusts wsX2_isWhole := goodIn_r _ [18, 19, 47, 48, 49, 50, 51, 52, 53, 54, 55, 56] (by decide +kernel) (by decide +kernel)
set_option maxRecDepth 20000 in
theorem gX3_rusts_X2_isWhole : GoodIn wsX3_rusts (wsV RX3 127 RX2 yX2_isWhole wsX2_isWhole) := goodIn_app (goodIn_of _ (by decide +kernel)) ggX3_rusts_X2_isWhole
set_option maxRecDepth 20000 in
theorem ggX3_rusts_X2_wholeCount : GoodIn wsX3_rusts wsX2_wholeCount := goodIn_r _ [23, 24, 25, 26, 6, 27, 8, 28, 16, 17, 18, 19, 29, 30, 31, 32, 33, 34, 35, 47, 48, 49, 50, 51, 52, 53, 54, 55, 56] (by decide +kernel) (by decide +kernel)
set_option maxRecDepth 20000 in
theorem gX3_rusts_X2_wholeCount : GoodIn wsX3_rusts (wsV RX3 130 RX2 yX2_wholeCount wsX2_wholeCount) := goodIn_app (goodIn_of _ (by decide +kernel)) ggX3_rusts_X2_wholeCount
theorem dX3_rusts_0 : decode cX3_rusts 0 = .ok (.aload_n 0, 1) := by decide +kernel
theorem dX3_rusts_1 : decode cX3_rusts 1 = .ok (.getfield 10, 3) := by decide +kernel
theorem dX3_rusts_4 : decode cX3_rusts 4 = .ok (.iload_n 1, 1) := by decide +kernel
theorem dX3_rusts_5 : decode cX3_rusts 5 = .ok (.invokevirtual 99, 3) := by decide +kernel
theorem dX3_rusts_8 : decode cX3_rusts 8 = .ok (.ifCond .ne 9, 3) := by decide +kernel
theorem dX3_rusts_11 : decode cX3_rusts 11 = .ok (.aload_n 0, 1) := by decide +kernel
theorem dX3_rusts_12 : decode cX3_rusts 12 = .ok (.iconst (-1), 1) := by decide +kernel
theorem dX3_rusts_13 : decode cX3_rusts 13 = .ok (.invokevirtual 57, 3) := by decide +kernel
theorem dX3_rusts_16 : decode cX3_rusts 16 = .ok (.ireturn, 1) := by decide +kernel
theorem dX3_rusts_17 : decode cX3_rusts 17 = .ok (.aload_n 0, 1) := by decide +kernel
theorem dX3_rusts_18 : decode cX3_rusts 18 = .ok (.getfield 10, 3) := by decide +kernel
theorem dX3_rusts_21 : decode cX3_rusts 21 = .ok (.iload_n 1, 1) := by decide +kernel
theorem dX3_rusts_22 : decode cX3_rusts 22 = .ok (.invokevirtual 127, 3) := by decide +kernel
theorem dX3_rusts_25 : decode cX3_rusts 25 = .ok (.ifCond .ne 10, 3) := by decide +kernel
theorem dX3_rusts_28 : decode cX3_rusts 28 = .ok (.aload_n 0, 1) := by decide +kernel
theorem dX3_rusts_29 : decode cX3_rusts 29 = .ok (.bipush (-3), 2) := by decide +kernel
theorem dX3_rusts_31 : decode cX3_rusts 31 = .ok (.invokevirtual 57, 3) := by decide +kernel
theorem dX3_rusts_34 : decode cX3_rusts 34 = .ok (.ireturn, 1) := by decide +kernel
theorem dX3_rusts_35 : decode cX3_rusts 35 = .ok (.aload_n 0, 1) := by decide +kernel
theorem dX3_rusts_36 : decode cX3_rusts 36 = .ok (.getfield 10, 3) := by decide +kernel
theorem dX3_rusts_39 : decode cX3_rusts 39 = .ok (.getfield 114, 3) := by decide +kernel
theorem dX3_rusts_42 : decode cX3_rusts 42 = .ok (.iload_n 1, 1) := by decide +kernel
theorem dX3_rusts_43 : decode cX3_rusts 43 = .ok (.bipush (-8), 2) := by decide +kernel
theorem dX3_rusts_45 : decode cX3_rusts 45 = .ok (.iastore, 1) := by decide +kernel
theorem dX3_rusts_46 : decode cX3_rusts 46 = .ok (.aload_n 0, 1) := by decide +kernel
theorem dX3_rusts_47 : decode cX3_rusts 47 = .ok (.getfield 10, 3) := by decide +kernel
theorem dX3_rusts_50 : decode cX3_rusts 50 = .ok (.invokevirtual 130, 3) := by decide +kernel
theorem dX3_rusts_53 : decode cX3_rusts 53 = .ok (.ireturn, 1) := by decide +kernel
set_option maxRecDepth 20000 in
theorem ggX3_says_X2_isPerson : GoodIn wsX3_says wsX2_isPerson := goodIn_r _ [7, 8, 57, 58, 59, 60, 61, 62, 63, 64, 65, 66] (by decide +kernel) (by decide +kernel)
set_option maxRecDepth 20000 in
theorem gX3_says_X2_isPerson : GoodIn wsX3_says (wsV RX3 83 RX2 yX2_isPerson wsX2_isPerson) := goodIn_app (goodIn_of _ (by decide +kernel)) ggX3_says_X2_isPerson
set_option maxRecDepth 20000 in
theorem ggX3_says_X2_isThing : GoodIn wsX3_says wsX2_isThing := goodIn_r _ [12, 13, 57, 58, 59, 60, 61, 62, 63, 64, 65, 66] (by decide +kernel) (by decide +kernel)
set_option maxRecDepth 20000 in
theorem gX3_says_X2_isThing : GoodIn wsX3_says (wsV RX3 99 RX2 yX2_isThing wsX2_isThing) := goodIn_app (goodIn_of _ (by decide +kernel)) ggX3_says_X2_isThing
set_option maxRecDepth 20000 in
theorem ggX3_says_X3_refuse : GoodIn wsX3_says wsX3_refuse := goodIn_r _ [18, 19, 46, 47, 48, 49, 50, 51, 52, 53, 54, 55, 56] (by decide +kernel) (by decide +kernel)
set_option maxRecDepth 20000 in
theorem gX3_says_X3_refuse : GoodIn wsX3_says (wsV RX3 57 RX3 yX3_refuse wsX3_refuse) := goodIn_app (goodIn_of _ (by decide +kernel)) ggX3_says_X3_refuse
set_option maxRecDepth 20000 in
theorem ggX3_says_X2_isMourned : GoodIn wsX3_says wsX2_isMourned := goodIn_r _ [23, 24, 57, 58, 59, 60, 61, 62, 63, 64, 65, 66] (by decide +kernel) (by decide +kernel)
set_option maxRecDepth 20000 in
theorem gX3_says_X2_isMourned : GoodIn wsX3_says (wsV RX3 133 RX2 yX2_isMourned wsX2_isMourned) := goodIn_app (goodIn_of _ (by decide +kernel)) ggX3_says_X2_isMourned
set_option maxRecDepth 20000 in
theorem ggX3_says_X2_mendersNow : GoodIn wsX3_says wsX2_mendersNow := goodIn_r _ [28, 8, 29, 30, 31, 6, 32, 24, 33, 34, 35, 36, 37, 38, 39, 40, 41, 42, 43, 44, 45, 4, 5, 7, 57, 58, 59, 60, 61, 62, 63, 64, 65, 66] (by decide +kernel) (by decide +kernel)
set_option maxRecDepth 20000 in
theorem gX3_says_X2_mendersNow : GoodIn wsX3_says (wsV RX3 136 RX2 yX2_mendersNow wsX2_mendersNow) := goodIn_app (goodIn_of _ (by decide +kernel)) ggX3_says_X2_mendersNow
theorem dX3_says_0 : decode cX3_says 0 = .ok (.aload_n 0, 1) := by decide +kernel
theorem dX3_says_1 : decode cX3_says 1 = .ok (.getfield 10, 3) := by decide +kernel
theorem dX3_says_4 : decode cX3_says 4 = .ok (.iload_n 1, 1) := by decide +kernel
theorem dX3_says_5 : decode cX3_says 5 = .ok (.invokevirtual 83, 3) := by decide +kernel
theorem dX3_says_8 : decode cX3_says 8 = .ok (.ifCond .eq 14, 3) := by decide +kernel
theorem dX3_says_11 : decode cX3_says 11 = .ok (.aload_n 0, 1) := by decide +kernel
theorem dX3_says_12 : decode cX3_says 12 = .ok (.getfield 10, 3) := by decide +kernel
theorem dX3_says_15 : decode cX3_says 15 = .ok (.iload_n 2, 1) := by decide +kernel
theorem dX3_says_16 : decode cX3_says 16 = .ok (.invokevirtual 99, 3) := by decide +kernel
theorem dX3_says_19 : decode cX3_says 19 = .ok (.ifCond .ne 9, 3) := by decide +kernel
theorem dX3_says_22 : decode cX3_says 22 = .ok (.aload_n 0, 1) := by decide +kernel
theorem dX3_says_23 : decode cX3_says 23 = .ok (.iconst (-1), 1) := by decide +kernel
theorem dX3_says_24 : decode cX3_says 24 = .ok (.invokevirtual 57, 3) := by decide +kernel
theorem dX3_says_27 : decode cX3_says 27 = .ok (.ireturn, 1) := by decide +kernel
theorem dX3_says_28 : decode cX3_says 28 = .ok (.aload_n 0, 1) := by decide +kernel
theorem dX3_says_29 : decode cX3_says 29 = .ok (.getfield 10, 3) := by decide +kernel
theorem dX3_says_32 : decode cX3_says 32 = .ok (.iload_n 2, 1) := by decide +kernel
theorem dX3_says_33 : decode cX3_says 33 = .ok (.invokevirtual 133, 3) := by decide +kernel
theorem dX3_says_36 : decode cX3_says 36 = .ok (.ifCond .ne 10, 3) := by decide +kernel
theorem dX3_says_39 : decode cX3_says 39 = .ok (.aload_n 0, 1) := by decide +kernel
theorem dX3_says_40 : decode cX3_says 40 = .ok (.bipush (-3), 2) := by decide +kernel
theorem dX3_says_42 : decode cX3_says 42 = .ok (.invokevirtual 57, 3) := by decide +kernel
theorem dX3_says_45 : decode cX3_says 45 = .ok (.ireturn, 1) := by decide +kernel
theorem dX3_says_46 : decode cX3_says 46 = .ok (.aload_n 0, 1) := by decide +kernel
theorem dX3_says_47 : decode cX3_says 47 = .ok (.getfield 10, 3) := by decide +kernel
theorem dX3_says_50 : decode cX3_says 50 = .ok (.getfield 114, 3) := by decide +kernel
theorem dX3_says_53 : decode cX3_says 53 = .ok (.iload_n 2, 1) := by decide +kernel
theorem dX3_says_54 : decode cX3_says 54 = .ok (.iload_n 1, 1) := by decide +kernel
theorem dX3_says_55 : decode cX3_says 55 = .ok (.iastore, 1) := by decide +kernel
theorem dX3_says_56 : decode cX3_says 56 = .ok (.aload_n 0, 1) := by decide +kernel
theorem dX3_says_57 : decode cX3_says 57 = .ok (.getfield 10, 3) := by decide +kernel
theorem dX3_says_60 : decode cX3_says 60 = .ok (.iload_n 2, 1) := by decide +kernel
theorem dX3_says_61 : decode cX3_says 61 = .ok (.invokevirtual 136, 3) := by decide +kernel
theorem dX3_says_64 : decode cX3_says 64 = .ok (.ireturn, 1) := by decide +kernel
set_option maxRecDepth 20000 in
theorem ggX3_mends_X2_isPerson : GoodIn wsX3_mends wsX2_isPerson := goodIn_r _ [6, 7, 73, 74, 75, 76, 77, 78, 79, 80, 81, 82] (by decide +kernel) (by decide +kernel)
set_option maxRecDepth 20000 in
theorem gX3_mends_X2_isPerson : GoodIn wsX3_mends (wsV RX3 83 RX2 yX2_isPerson wsX2_isPerson) := goodIn_app (goodIn_of _ (by decide +kernel)) ggX3_mends_X2_isPerson
set_option maxRecDepth 20000 in
theorem ggX3_mends_X2_isThing : GoodIn wsX3_mends wsX2_isThing := goodIn_r _ [11, 12, 73, 74, 75, 76, 77, 78, 79, 80, 81, 82] (by decide +kernel) (by decide +kernel)
set_option maxRecDepth 20000 in
theorem gX3_mends_X2_isThing : GoodIn wsX3_mends (wsV RX3 99 RX2 yX2_isThing wsX2_isThing) := goodIn_app (goodIn_of _ (by decide +kernel)) ggX3_mends_X2_isThing
set_option maxRecDepth 20000 in
theorem ggX3_mends_X3_refuse : GoodIn wsX3_mends wsX3_refuse := goodIn_r _ [17, 18, 62, 63, 64, 65, 66, 67, 68, 69, 70, 71, 72] (by decide +kernel) (by decide +kernel)
set_option maxRecDepth 20000 in
theorem gX3_mends_X3_refuse : GoodIn wsX3_mends (wsV RX3 57 RX3 yX3_refuse wsX3_refuse) := goodIn_app (goodIn_of _ (by decide +kernel)) ggX3_mends_X3_refuse
set_option maxRecDepth 20000 in
theorem ggX3_mends_X2_mayMend : GoodIn wsX3_mends wsX2_mayMend := goodIn_r _ [22, 23, 24, 25, 26, 27, 5, 28, 29, 30, 31, 32, 33, 34, 35, 36, 3, 4, 6, 7, 73, 74, 75, 76, 77, 78, 79, 80, 81, 82] (by decide +kernel) (by decide +kernel)
set_option maxRecDepth 20000 in
theorem gX3_mends_X2_mayMend : GoodIn wsX3_mends (wsV RX3 139 RX2 yX2_mayMend wsX2_mayMend) := goodIn_app (goodIn_of _ (by decide +kernel)) ggX3_mends_X2_mayMend
set_option maxRecDepth 20000 in
theorem ggX3_mends_X2_mend : GoodIn wsX3_mends wsX2_mend := goodIn_r _ [40, 23, 41, 42, 30, 31, 32, 33, 73, 74, 75, 76, 77, 78, 79, 80, 81, 82] (by decide +kernel) (by decide +kernel)
set_option maxRecDepth 20000 in
theorem gX3_mends_X2_mend : GoodIn wsX3_mends (wsV RX3 143 RX2 yX2_mend wsX2_mend) := goodIn_app (goodIn_of _ (by decide +kernel)) ggX3_mends_X2_mend
set_option maxRecDepth 20000 in
theorem ggX3_mends_X2_wholeCount : GoodIn wsX3_mends wsX2_wholeCount := goodIn_r _ [46, 47, 48, 49, 5, 50, 12, 51, 52, 53, 54, 23, 55, 56, 57, 58, 59, 60, 61, 73, 74, 75, 76, 77, 78, 79, 80, 81, 82] (by decide +kernel) (by decide +kernel)
set_option maxRecDepth 20000 in
theorem gX3_mends_X2_wholeCount : GoodIn wsX3_mends (wsV RX3 130 RX2 yX2_wholeCount wsX2_wholeCount) := goodIn_app (goodIn_of _ (by decide +kernel)) ggX3_mends_X2_wholeCount
theorem dX3_mends_0 : decode cX3_mends 0 = .ok (.aload_n 0, 1) := by decide +kernel
theorem dX3_mends_1 : decode cX3_mends 1 = .ok (.getfield 10, 3) := by decide +kernel
theorem dX3_mends_4 : decode cX3_mends 4 = .ok (.iload_n 1, 1) := by decide +kernel
theorem dX3_mends_5 : decode cX3_mends 5 = .ok (.invokevirtual 83, 3) := by decide +kernel
theorem dX3_mends_8 : decode cX3_mends 8 = .ok (.ifCond .eq 14, 3) := by decide +kernel
theorem dX3_mends_11 : decode cX3_mends 11 = .ok (.aload_n 0, 1) := by decide +kernel
theorem dX3_mends_12 : decode cX3_mends 12 = .ok (.getfield 10, 3) := by decide +kernel
theorem dX3_mends_15 : decode cX3_mends 15 = .ok (.iload_n 2, 1) := by decide +kernel
theorem dX3_mends_16 : decode cX3_mends 16 = .ok (.invokevirtual 99, 3) := by decide +kernel
theorem dX3_mends_19 : decode cX3_mends 19 = .ok (.ifCond .ne 9, 3) := by decide +kernel
theorem dX3_mends_22 : decode cX3_mends 22 = .ok (.aload_n 0, 1) := by decide +kernel
theorem dX3_mends_23 : decode cX3_mends 23 = .ok (.iconst (-1), 1) := by decide +kernel
theorem dX3_mends_24 : decode cX3_mends 24 = .ok (.invokevirtual 57, 3) := by decide +kernel
theorem dX3_mends_27 : decode cX3_mends 27 = .ok (.ireturn, 1) := by decide +kernel
theorem dX3_mends_28 : decode cX3_mends 28 = .ok (.aload_n 0, 1) := by decide +kernel
theorem dX3_mends_29 : decode cX3_mends 29 = .ok (.getfield 10, 3) := by decide +kernel
theorem dX3_mends_32 : decode cX3_mends 32 = .ok (.iload_n 1, 1) := by decide +kernel
theorem dX3_mends_33 : decode cX3_mends 33 = .ok (.iload_n 2, 1) := by decide +kernel
theorem dX3_mends_34 : decode cX3_mends 34 = .ok (.invokevirtual 139, 3) := by decide +kernel
theorem dX3_mends_37 : decode cX3_mends 37 = .ok (.ifCond .ne 10, 3) := by decide +kernel
theorem dX3_mends_40 : decode cX3_mends 40 = .ok (.aload_n 0, 1) := by decide +kernel
theorem dX3_mends_41 : decode cX3_mends 41 = .ok (.bipush (-3), 2) := by decide +kernel
theorem dX3_mends_43 : decode cX3_mends 43 = .ok (.invokevirtual 57, 3) := by decide +kernel
theorem dX3_mends_46 : decode cX3_mends 46 = .ok (.ireturn, 1) := by decide +kernel
theorem dX3_mends_47 : decode cX3_mends 47 = .ok (.aload_n 0, 1) := by decide +kernel
theorem dX3_mends_48 : decode cX3_mends 48 = .ok (.getfield 10, 3) := by decide +kernel
theorem dX3_mends_51 : decode cX3_mends 51 = .ok (.iload_n 1, 1) := by decide +kernel
theorem dX3_mends_52 : decode cX3_mends 52 = .ok (.iload_n 2, 1) := by decide +kernel
theorem dX3_mends_53 : decode cX3_mends 53 = .ok (.invokevirtual 143, 3) := by decide +kernel
theorem dX3_mends_56 : decode cX3_mends 56 = .ok (.aload_n 0, 1) := by decide +kernel
theorem dX3_mends_57 : decode cX3_mends 57 = .ok (.getfield 10, 3) := by decide +kernel
theorem dX3_mends_60 : decode cX3_mends 60 = .ok (.invokevirtual 130, 3) := by decide +kernel
theorem dX3_mends_63 : decode cX3_mends 63 = .ok (.ireturn, 1) := by decide +kernel
set_option maxRecDepth 20000 in
theorem ggX3_wears_X2_isThing : GoodIn wsX3_wears wsX2_isThing := goodIn_r _ [7, 8, 29, 30, 31, 32, 33, 34, 35, 36, 37, 38] (by decide +kernel) (by decide +kernel)
set_option maxRecDepth 20000 in
theorem gX3_wears_X2_isThing : GoodIn wsX3_wears (wsV RX3 99 RX2 yX2_isThing wsX2_isThing) := goodIn_app (goodIn_of _ (by decide +kernel)) ggX3_wears_X2_isThing
set_option maxRecDepth 20000 in
theorem ggX3_wears_X3_refuse : GoodIn wsX3_wears wsX3_refuse := goodIn_r _ [13, 14, 18, 19, 20, 21, 22, 23, 24, 25, 26, 27, 28] (by decide +kernel) (by decide +kernel)
set_option maxRecDepth 20000 in
theorem gX3_wears_X3_refuse : GoodIn wsX3_wears (wsV RX3 57 RX3 yX3_refuse wsX3_refuse) := goodIn_app (goodIn_of _ (by decide +kernel)) ggX3_wears_X3_refuse
set_option maxRecDepth 20000 in
theorem ggX3_wears_X3_outside : GoodIn wsX3_wears wsX3_outside := goodIn_r _ [17] (by decide +kernel) (by decide +kernel)
set_option maxRecDepth 20000 in
theorem gX3_wears_X3_outside : GoodIn wsX3_wears (va_wsS RX3 147 yX3_outside wsX3_outside) := goodIn_app (goodIn_of _ (by decide +kernel)) ggX3_wears_X3_outside
theorem dX3_wears_0 : decode cX3_wears 0 = .ok (.aload_n 0, 1) := by decide +kernel
theorem dX3_wears_1 : decode cX3_wears 1 = .ok (.getfield 10, 3) := by decide +kernel
theorem dX3_wears_4 : decode cX3_wears 4 = .ok (.iload_n 1, 1) := by decide +kernel
theorem dX3_wears_5 : decode cX3_wears 5 = .ok (.invokevirtual 99, 3) := by decide +kernel
theorem dX3_wears_8 : decode cX3_wears 8 = .ok (.ifCond .ne 9, 3) := by decide +kernel
theorem dX3_wears_11 : decode cX3_wears 11 = .ok (.aload_n 0, 1) := by decide +kernel
theorem dX3_wears_12 : decode cX3_wears 12 = .ok (.iconst (-1), 1) := by decide +kernel
theorem dX3_wears_13 : decode cX3_wears 13 = .ok (.invokevirtual 57, 3) := by decide +kernel
theorem dX3_wears_16 : decode cX3_wears 16 = .ok (.ireturn, 1) := by decide +kernel
theorem dX3_wears_17 : decode cX3_wears 17 = .ok (.iload_n 2, 1) := by decide +kernel
theorem dX3_wears_18 : decode cX3_wears 18 = .ok (.iconst 0, 1) := by decide +kernel
theorem dX3_wears_19 : decode cX3_wears 19 = .ok (.bipush 9, 2) := by decide +kernel
theorem dX3_wears_21 : decode cX3_wears 21 = .ok (.invokestatic 147, 3) := by decide +kernel
theorem dX3_wears_24 : decode cX3_wears 24 = .ok (.istore_n 3, 1) := by decide +kernel
theorem dX3_wears_25 : decode cX3_wears 25 = .ok (.iload_n 3, 1) := by decide +kernel
theorem dX3_wears_26 : decode cX3_wears 26 = .ok (.ifCond .eq 9, 3) := by decide +kernel
theorem dX3_wears_29 : decode cX3_wears 29 = .ok (.aload_n 0, 1) := by decide +kernel
theorem dX3_wears_30 : decode cX3_wears 30 = .ok (.iload_n 3, 1) := by decide +kernel
theorem dX3_wears_31 : decode cX3_wears 31 = .ok (.invokevirtual 57, 3) := by decide +kernel
theorem dX3_wears_34 : decode cX3_wears 34 = .ok (.ireturn, 1) := by decide +kernel
theorem dX3_wears_35 : decode cX3_wears 35 = .ok (.aload_n 0, 1) := by decide +kernel
theorem dX3_wears_36 : decode cX3_wears 36 = .ok (.getfield 10, 3) := by decide +kernel
theorem dX3_wears_39 : decode cX3_wears 39 = .ok (.getfield 111, 3) := by decide +kernel
theorem dX3_wears_42 : decode cX3_wears 42 = .ok (.iload_n 1, 1) := by decide +kernel
theorem dX3_wears_43 : decode cX3_wears 43 = .ok (.iaload, 1) := by decide +kernel
theorem dX3_wears_44 : decode cX3_wears 44 = .ok (.istore 4, 2) := by decide +kernel
theorem dX3_wears_46 : decode cX3_wears 46 = .ok (.aload_n 0, 1) := by decide +kernel
theorem dX3_wears_47 : decode cX3_wears 47 = .ok (.getfield 10, 3) := by decide +kernel
theorem dX3_wears_50 : decode cX3_wears 50 = .ok (.getfield 111, 3) := by decide +kernel
theorem dX3_wears_53 : decode cX3_wears 53 = .ok (.iload_n 1, 1) := by decide +kernel
theorem dX3_wears_54 : decode cX3_wears 54 = .ok (.iload_n 2, 1) := by decide +kernel
theorem dX3_wears_55 : decode cX3_wears 55 = .ok (.iastore, 1) := by decide +kernel
theorem dX3_wears_56 : decode cX3_wears 56 = .ok (.iload 4, 2) := by decide +kernel
theorem dX3_wears_58 : decode cX3_wears 58 = .ok (.ireturn, 1) := by decide +kernel
set_option maxRecDepth 20000 in
theorem ggX3_skill_X2_isPerson : GoodIn wsX3_skill wsX2_isPerson := goodIn_r _ [7, 8, 29, 30, 31, 32, 33, 34, 35, 36, 37, 38] (by decide +kernel) (by decide +kernel)
set_option maxRecDepth 20000 in
theorem gX3_skill_X2_isPerson : GoodIn wsX3_skill (wsV RX3 83 RX2 yX2_isPerson wsX2_isPerson) := goodIn_app (goodIn_of _ (by decide +kernel)) ggX3_skill_X2_isPerson
set_option maxRecDepth 20000 in
theorem ggX3_skill_X3_refuse : GoodIn wsX3_skill wsX3_refuse := goodIn_r _ [13, 14, 18, 19, 20, 21, 22, 23, 24, 25, 26, 27, 28] (by decide +kernel) (by decide +kernel)
set_option maxRecDepth 20000 in
theorem gX3_skill_X3_refuse : GoodIn wsX3_skill (wsV RX3 57 RX3 yX3_refuse wsX3_refuse) := goodIn_app (goodIn_of _ (by decide +kernel)) ggX3_skill_X3_refuse
set_option maxRecDepth 20000 in
theorem ggX3_skill_X3_outside : GoodIn wsX3_skill wsX3_outside := goodIn_r _ [17] (by decide +kernel) (by decide +kernel)
set_option maxRecDepth 20000 in
theorem gX3_skill_X3_outside : GoodIn wsX3_skill (va_wsS RX3 147 yX3_outside wsX3_outside) := goodIn_app (goodIn_of _ (by decide +kernel)) ggX3_skill_X3_outside
theorem dX3_skill_0 : decode cX3_skill 0 = .ok (.aload_n 0, 1) := by decide +kernel
theorem dX3_skill_1 : decode cX3_skill 1 = .ok (.getfield 10, 3) := by decide +kernel
theorem dX3_skill_4 : decode cX3_skill 4 = .ok (.iload_n 1, 1) := by decide +kernel
theorem dX3_skill_5 : decode cX3_skill 5 = .ok (.invokevirtual 83, 3) := by decide +kernel
theorem dX3_skill_8 : decode cX3_skill 8 = .ok (.ifCond .ne 9, 3) := by decide +kernel
theorem dX3_skill_11 : decode cX3_skill 11 = .ok (.aload_n 0, 1) := by decide +kernel
theorem dX3_skill_12 : decode cX3_skill 12 = .ok (.iconst (-1), 1) := by decide +kernel
theorem dX3_skill_13 : decode cX3_skill 13 = .ok (.invokevirtual 57, 3) := by decide +kernel
theorem dX3_skill_16 : decode cX3_skill 16 = .ok (.ireturn, 1) := by decide +kernel
theorem dX3_skill_17 : decode cX3_skill 17 = .ok (.iload_n 2, 1) := by decide +kernel
theorem dX3_skill_18 : decode cX3_skill 18 = .ok (.iconst 0, 1) := by decide +kernel
theorem dX3_skill_19 : decode cX3_skill 19 = .ok (.bipush 9, 2) := by decide +kernel
theorem dX3_skill_21 : decode cX3_skill 21 = .ok (.invokestatic 147, 3) := by decide +kernel
theorem dX3_skill_24 : decode cX3_skill 24 = .ok (.istore_n 3, 1) := by decide +kernel
theorem dX3_skill_25 : decode cX3_skill 25 = .ok (.iload_n 3, 1) := by decide +kernel
theorem dX3_skill_26 : decode cX3_skill 26 = .ok (.ifCond .eq 9, 3) := by decide +kernel
theorem dX3_skill_29 : decode cX3_skill 29 = .ok (.aload_n 0, 1) := by decide +kernel
theorem dX3_skill_30 : decode cX3_skill 30 = .ok (.iload_n 3, 1) := by decide +kernel
theorem dX3_skill_31 : decode cX3_skill 31 = .ok (.invokevirtual 57, 3) := by decide +kernel
theorem dX3_skill_34 : decode cX3_skill 34 = .ok (.ireturn, 1) := by decide +kernel
theorem dX3_skill_35 : decode cX3_skill 35 = .ok (.aload_n 0, 1) := by decide +kernel
theorem dX3_skill_36 : decode cX3_skill 36 = .ok (.getfield 10, 3) := by decide +kernel
theorem dX3_skill_39 : decode cX3_skill 39 = .ok (.getfield 87, 3) := by decide +kernel
theorem dX3_skill_42 : decode cX3_skill 42 = .ok (.iload_n 1, 1) := by decide +kernel
theorem dX3_skill_43 : decode cX3_skill 43 = .ok (.iaload, 1) := by decide +kernel
theorem dX3_skill_44 : decode cX3_skill 44 = .ok (.istore 4, 2) := by decide +kernel
theorem dX3_skill_46 : decode cX3_skill 46 = .ok (.aload_n 0, 1) := by decide +kernel
theorem dX3_skill_47 : decode cX3_skill 47 = .ok (.getfield 10, 3) := by decide +kernel
theorem dX3_skill_50 : decode cX3_skill 50 = .ok (.getfield 87, 3) := by decide +kernel
theorem dX3_skill_53 : decode cX3_skill 53 = .ok (.iload_n 1, 1) := by decide +kernel
theorem dX3_skill_54 : decode cX3_skill 54 = .ok (.iload_n 2, 1) := by decide +kernel
theorem dX3_skill_55 : decode cX3_skill 55 = .ok (.iastore, 1) := by decide +kernel
theorem dX3_skill_56 : decode cX3_skill 56 = .ok (.iload 4, 2) := by decide +kernel
theorem dX3_skill_58 : decode cX3_skill 58 = .ok (.ireturn, 1) := by decide +kernel
set_option maxRecDepth 20000 in
theorem ggX3_turn_X2_isThing : GoodIn wsX3_turn wsX2_isThing := goodIn_r _ [8, 9, 30, 31, 32, 33, 34, 35, 36, 37, 38, 39] (by decide +kernel) (by decide +kernel)
set_option maxRecDepth 20000 in
theorem gX3_turn_X2_isThing : GoodIn wsX3_turn (wsV RX3 99 RX2 yX2_isThing wsX2_isThing) := goodIn_app (goodIn_of _ (by decide +kernel)) ggX3_turn_X2_isThing
set_option maxRecDepth 20000 in
theorem ggX3_turn_X3_refuse : GoodIn wsX3_turn wsX3_refuse := goodIn_r _ [14, 15, 19, 20, 21, 22, 23, 24, 25, 26, 27, 28, 29] (by decide +kernel) (by decide +kernel)
set_option maxRecDepth 20000 in
theorem gX3_turn_X3_refuse : GoodIn wsX3_turn (wsV RX3 57 RX3 yX3_refuse wsX3_refuse) := goodIn_app (goodIn_of _ (by decide +kernel)) ggX3_turn_X3_refuse
set_option maxRecDepth 20000 in
theorem ggX3_turn_X3_outside : GoodIn wsX3_turn wsX3_outside := goodIn_r _ [18] (by decide +kernel) (by decide +kernel)
set_option maxRecDepth 20000 in
theorem gX3_turn_X3_outside : GoodIn wsX3_turn (va_wsS RX3 147 yX3_outside wsX3_outside) := goodIn_app (goodIn_of _ (by decide +kernel)) ggX3_turn_X3_outside
theorem dX3_turn_0 : decode cX3_turn 0 = .ok (.aload_n 0, 1) := by decide +kernel
theorem dX3_turn_1 : decode cX3_turn 1 = .ok (.getfield 10, 3) := by decide +kernel
theorem dX3_turn_4 : decode cX3_turn 4 = .ok (.iload_n 1, 1) := by decide +kernel
theorem dX3_turn_5 : decode cX3_turn 5 = .ok (.invokevirtual 99, 3) := by decide +kernel
theorem dX3_turn_8 : decode cX3_turn 8 = .ok (.ifCond .ne 9, 3) := by decide +kernel
theorem dX3_turn_11 : decode cX3_turn 11 = .ok (.aload_n 0, 1) := by decide +kernel
theorem dX3_turn_12 : decode cX3_turn 12 = .ok (.iconst (-1), 1) := by decide +kernel
theorem dX3_turn_13 : decode cX3_turn 13 = .ok (.invokevirtual 57, 3) := by decide +kernel
theorem dX3_turn_16 : decode cX3_turn 16 = .ok (.ireturn, 1) := by decide +kernel
theorem dX3_turn_17 : decode cX3_turn 17 = .ok (.iload_n 2, 1) := by decide +kernel
theorem dX3_turn_18 : decode cX3_turn 18 = .ok (.ifCond .lt 9, 3) := by decide +kernel
theorem dX3_turn_21 : decode cX3_turn 21 = .ok (.iload_n 2, 1) := by decide +kernel
theorem dX3_turn_22 : decode cX3_turn 22 = .ok (.bipush 6, 2) := by decide +kernel
theorem dX3_turn_24 : decode cX3_turn 24 = .ok (.if_icmp .lt 10, 3) := by decide +kernel
theorem dX3_turn_27 : decode cX3_turn 27 = .ok (.aload_n 0, 1) := by decide +kernel
theorem dX3_turn_28 : decode cX3_turn 28 = .ok (.bipush (-2), 2) := by decide +kernel
theorem dX3_turn_30 : decode cX3_turn 30 = .ok (.invokevirtual 57, 3) := by decide +kernel
theorem dX3_turn_33 : decode cX3_turn 33 = .ok (.ireturn, 1) := by decide +kernel
theorem dX3_turn_34 : decode cX3_turn 34 = .ok (.iload_n 3, 1) := by decide +kernel
theorem dX3_turn_35 : decode cX3_turn 35 = .ok (.iconst 0, 1) := by decide +kernel
theorem dX3_turn_36 : decode cX3_turn 36 = .ok (.bipush 9, 2) := by decide +kernel
theorem dX3_turn_38 : decode cX3_turn 38 = .ok (.invokestatic 147, 3) := by decide +kernel
theorem dX3_turn_41 : decode cX3_turn 41 = .ok (.istore 4, 2) := by decide +kernel
theorem dX3_turn_43 : decode cX3_turn 43 = .ok (.iload 4, 2) := by decide +kernel
theorem dX3_turn_45 : decode cX3_turn 45 = .ok (.ifCond .eq 10, 3) := by decide +kernel
theorem dX3_turn_48 : decode cX3_turn 48 = .ok (.aload_n 0, 1) := by decide +kernel
theorem dX3_turn_49 : decode cX3_turn 49 = .ok (.iload 4, 2) := by decide +kernel
theorem dX3_turn_51 : decode cX3_turn 51 = .ok (.invokevirtual 57, 3) := by decide +kernel
theorem dX3_turn_54 : decode cX3_turn 54 = .ok (.ireturn, 1) := by decide +kernel
theorem dX3_turn_55 : decode cX3_turn 55 = .ok (.bipush 10, 2) := by decide +kernel
theorem dX3_turn_57 : decode cX3_turn 57 = .ok (.aload_n 0, 1) := by decide +kernel
theorem dX3_turn_58 : decode cX3_turn 58 = .ok (.getfield 10, 3) := by decide +kernel
theorem dX3_turn_61 : decode cX3_turn 61 = .ok (.getfield 102, 3) := by decide +kernel
theorem dX3_turn_64 : decode cX3_turn 64 = .ok (.iload_n 1, 1) := by decide +kernel
theorem dX3_turn_65 : decode cX3_turn 65 = .ok (.iaload, 1) := by decide +kernel
theorem dX3_turn_66 : decode cX3_turn 66 = .ok (.imul, 1) := by decide +kernel
theorem dX3_turn_67 : decode cX3_turn 67 = .ok (.aload_n 0, 1) := by decide +kernel
theorem dX3_turn_68 : decode cX3_turn 68 = .ok (.getfield 10, 3) := by decide +kernel
theorem dX3_turn_71 : decode cX3_turn 71 = .ok (.getfield 105, 3) := by decide +kernel
theorem dX3_turn_74 : decode cX3_turn 74 = .ok (.iload_n 1, 1) := by decide +kernel
theorem dX3_turn_75 : decode cX3_turn 75 = .ok (.iaload, 1) := by decide +kernel
theorem dX3_turn_76 : decode cX3_turn 76 = .ok (.iadd, 1) := by decide +kernel
theorem dX3_turn_77 : decode cX3_turn 77 = .ok (.istore 5, 2) := by decide +kernel
theorem dX3_turn_79 : decode cX3_turn 79 = .ok (.aload_n 0, 1) := by decide +kernel
theorem dX3_turn_80 : decode cX3_turn 80 = .ok (.getfield 10, 3) := by decide +kernel
theorem dX3_turn_83 : decode cX3_turn 83 = .ok (.getfield 102, 3) := by decide +kernel
theorem dX3_turn_86 : decode cX3_turn 86 = .ok (.iload_n 1, 1) := by decide +kernel
theorem dX3_turn_87 : decode cX3_turn 87 = .ok (.iload_n 2, 1) := by decide +kernel
theorem dX3_turn_88 : decode cX3_turn 88 = .ok (.iastore, 1) := by decide +kernel
theorem dX3_turn_89 : decode cX3_turn 89 = .ok (.aload_n 0, 1) := by decide +kernel
theorem dX3_turn_90 : decode cX3_turn 90 = .ok (.getfield 10, 3) := by decide +kernel
theorem dX3_turn_93 : decode cX3_turn 93 = .ok (.getfield 105, 3) := by decide +kernel
theorem dX3_turn_96 : decode cX3_turn 96 = .ok (.iload_n 1, 1) := by decide +kernel
theorem dX3_turn_97 : decode cX3_turn 97 = .ok (.iload_n 3, 1) := by decide +kernel
theorem dX3_turn_98 : decode cX3_turn 98 = .ok (.iastore, 1) := by decide +kernel
theorem dX3_turn_99 : decode cX3_turn 99 = .ok (.iload 5, 2) := by decide +kernel
theorem dX3_turn_101 : decode cX3_turn 101 = .ok (.ireturn, 1) := by decide +kernel
set_option maxRecDepth 20000 in
theorem ggX3_days_X3_outside : GoodIn wsX3_days wsX3_outside := goodIn_r _ [6] (by decide +kernel) (by decide +kernel)
set_option maxRecDepth 20000 in
theorem gX3_days_X3_outside : GoodIn wsX3_days (va_wsS RX3 147 yX3_outside wsX3_outside) := goodIn_app (goodIn_of _ (by decide +kernel)) ggX3_days_X3_outside
set_option maxRecDepth 20000 in
theorem ggX3_days_X3_refuse : GoodIn wsX3_days wsX3_refuse := goodIn_r _ [10, 11, 86, 87, 88, 89, 90, 91, 92, 93, 94, 95, 96] (by decide +kernel) (by decide +kernel)
set_option maxRecDepth 20000 in
theorem gX3_days_X3_refuse : GoodIn wsX3_days (wsV RX3 57 RX3 yX3_refuse wsX3_refuse) := goodIn_app (goodIn_of _ (by decide +kernel)) ggX3_days_X3_refuse
set_option maxRecDepth 20000 in
theorem ggX3_days_X2_pass : GoodIn wsX3_days wsX2_pass := goodIn_r _ [16, 17, 18, 19, 20, 21, 15, 22, 23, 24, 25, 26, 27, 28, 29, 30, 31, 32, 33, 34, 35, 36, 37, 38, 39, 40, 41, 42, 43, 44, 45, 46, 47, 48, 49, 50, 51, 52, 53, 54, 55, 56, 57, 58, 59, 60, 61, 62, 63, 64, 65, 66, 67, 68, 69, 70, 97, 98, 99, 100, 101, 102, 103, 104, 105, 106] (by decide +kernel) (by decide +kernel)
set_option maxRecDepth 20000 in
theorem gX3_days_X2_pass : GoodIn wsX3_days (wsV RX3 151 RX2 yX2_pass wsX2_pass) := goodIn_app (goodIn_of _ (by decide +kernel)) ggX3_days_X2_pass
set_option maxRecDepth 20000 in
theorem ggX3_days_X2_wholeCount : GoodIn wsX3_days wsX2_wholeCount := goodIn_r _ [74, 75, 76, 77, 15, 78, 23, 24, 25, 26, 27, 28, 79, 80, 81, 82, 83, 84, 85, 97, 98, 99, 100, 101, 102, 103, 104, 105, 106] (by decide +kernel) (by decide +kernel)
set_option maxRecDepth 20000 in
theorem gX3_days_X2_wholeCount : GoodIn wsX3_days (wsV RX3 130 RX2 yX2_wholeCount wsX2_wholeCount) := goodIn_app (goodIn_of _ (by decide +kernel)) ggX3_days_X2_wholeCount
theorem dX3_days_0 : decode cX3_days 0 = .ok (.iload_n 1, 1) := by decide +kernel
theorem dX3_days_1 : decode cX3_days 1 = .ok (.iconst 1, 1) := by decide +kernel
theorem dX3_days_2 : decode cX3_days 2 = .ok (.bipush 60, 2) := by decide +kernel
theorem dX3_days_4 : decode cX3_days 4 = .ok (.invokestatic 147, 3) := by decide +kernel
theorem dX3_days_7 : decode cX3_days 7 = .ok (.istore_n 2, 1) := by decide +kernel
theorem dX3_days_8 : decode cX3_days 8 = .ok (.iload_n 2, 1) := by decide +kernel
theorem dX3_days_9 : decode cX3_days 9 = .ok (.ifCond .eq 9, 3) := by decide +kernel
theorem dX3_days_12 : decode cX3_days 12 = .ok (.aload_n 0, 1) := by decide +kernel
theorem dX3_days_13 : decode cX3_days 13 = .ok (.iload_n 2, 1) := by decide +kernel
theorem dX3_days_14 : decode cX3_days 14 = .ok (.invokevirtual 57, 3) := by decide +kernel
theorem dX3_days_17 : decode cX3_days 17 = .ok (.ireturn, 1) := by decide +kernel
theorem dX3_days_18 : decode cX3_days 18 = .ok (.aload_n 0, 1) := by decide +kernel
theorem dX3_days_19 : decode cX3_days 19 = .ok (.getfield 10, 3) := by decide +kernel
theorem dX3_days_22 : decode cX3_days 22 = .ok (.getfield 120, 3) := by decide +kernel
theorem dX3_days_25 : decode cX3_days 25 = .ok (.iload_n 1, 1) := by decide +kernel
theorem dX3_days_26 : decode cX3_days 26 = .ok (.iadd, 1) := by decide +kernel
theorem dX3_days_27 : decode cX3_days 27 = .ok (.sipush 999, 3) := by decide +kernel
theorem dX3_days_30 : decode cX3_days 30 = .ok (.if_icmp .le 10, 3) := by decide +kernel
theorem dX3_days_33 : decode cX3_days 33 = .ok (.aload_n 0, 1) := by decide +kernel
theorem dX3_days_34 : decode cX3_days 34 = .ok (.bipush (-6), 2) := by decide +kernel
theorem dX3_days_36 : decode cX3_days 36 = .ok (.invokevirtual 57, 3) := by decide +kernel
theorem dX3_days_39 : decode cX3_days 39 = .ok (.ireturn, 1) := by decide +kernel
theorem dX3_days_40 : decode cX3_days 40 = .ok (.aload_n 0, 1) := by decide +kernel
theorem dX3_days_41 : decode cX3_days 41 = .ok (.getfield 10, 3) := by decide +kernel
theorem dX3_days_44 : decode cX3_days 44 = .ok (.iload_n 1, 1) := by decide +kernel
theorem dX3_days_45 : decode cX3_days 45 = .ok (.iconst 1, 1) := by decide +kernel
theorem dX3_days_46 : decode cX3_days 46 = .ok (.bipush (-9), 2) := by decide +kernel
theorem dX3_days_48 : decode cX3_days 48 = .ok (.invokevirtual 151, 3) := by decide +kernel
theorem dX3_days_51 : decode cX3_days 51 = .ok (.aload_n 0, 1) := by decide +kernel
theorem dX3_days_52 : decode cX3_days 52 = .ok (.getfield 10, 3) := by decide +kernel
theorem dX3_days_55 : decode cX3_days 55 = .ok (.invokevirtual 130, 3) := by decide +kernel
theorem dX3_days_58 : decode cX3_days 58 = .ok (.ireturn, 1) := by decide +kernel
set_option maxRecDepth 20000 in
theorem ggX3_wholeThen_X3_outside : GoodIn wsX3_wholeThen wsX3_outside := goodIn_r _ [6] (by decide +kernel) (by decide +kernel)
set_option maxRecDepth 20000 in
theorem gX3_wholeThen_X3_outside : GoodIn wsX3_wholeThen (va_wsS RX3 147 yX3_outside wsX3_outside) := goodIn_app (goodIn_of _ (by decide +kernel)) ggX3_wholeThen_X3_outside
set_option maxRecDepth 20000 in
theorem ggX3_wholeThen_X3_refuse : GoodIn wsX3_wholeThen wsX3_refuse := goodIn_r _ [10, 11, 83, 84, 85, 86, 87, 88, 89, 90, 91, 92, 93] (by decide +kernel) (by decide +kernel)
set_option maxRecDepth 20000 in
theorem gX3_wholeThen_X3_refuse : GoodIn wsX3_wholeThen (wsV RX3 57 RX3 yX3_refuse wsX3_refuse) := goodIn_app (goodIn_of _ (by decide +kernel)) ggX3_wholeThen_X3_refuse
set_option maxRecDepth 20000 in
theorem ggX3_wholeThen_X2_become : GoodIn wsX3_wholeThen wsX2_become := goodIn_r _ [16, 17, 18, 19, 20, 21, 22, 23, 24, 25, 26, 27, 28, 29, 30, 94, 95, 96, 97, 98, 99, 100, 101, 102, 103] (by decide +kernel) (by decide +kernel)
set_option maxRecDepth 20000 in
theorem gX3_wholeThen_X2_become : GoodIn wsX3_wholeThen (wsV RX3 68 RX2 yX2_become wsX2_become) := goodIn_app (goodIn_of _ (by decide +kernel)) ggX3_wholeThen_X2_become
set_option maxRecDepth 20000 in
theorem ggX3_wholeThen_X2_pass : GoodIn wsX3_wholeThen wsX2_pass := goodIn_r _ [34, 30, 28, 35, 36, 37, 15, 38, 29, 39, 40, 41, 42, 27, 43, 44, 45, 46, 23, 24, 47, 48, 49, 50, 26, 51, 52, 53, 54, 55, 56, 57, 58, 59, 60, 61, 62, 17, 63, 64, 65, 66, 67, 68, 69, 70, 25, 71, 72, 73, 74, 75, 76, 77, 78, 22, 94, 95, 96, 97, 98, 99, 100, 101, 102, 103] (by decide +kernel) (by decide +kernel)
set_option maxRecDepth 20000 in
theorem gX3_wholeThen_X2_pass : GoodIn wsX3_wholeThen (wsV RX3 151 RX2 yX2_pass wsX2_pass) := goodIn_app (goodIn_of _ (by decide +kernel)) ggX3_wholeThen_X2_pass
set_option maxRecDepth 20000 in
theorem ggX3_wholeThen_X2_wholeBits : GoodIn wsX3_wholeThen wsX2_wholeBits := goodIn_r _ [82, 29, 39, 40, 41, 15, 42, 27, 94, 95, 96, 97, 98, 99, 100, 101, 102, 103] (by decide +kernel) (by decide +kernel)
set_option maxRecDepth 20000 in
theorem gX3_wholeThen_X2_wholeBits : GoodIn wsX3_wholeThen (wsV RX3 155 RX2 yX2_wholeBits wsX2_wholeBits) := goodIn_app (goodIn_of _ (by decide +kernel)) ggX3_wholeThen_X2_wholeBits
theorem dX3_wholeThen_0 : decode cX3_wholeThen 0 = .ok (.iload_n 1, 1) := by decide +kernel
theorem dX3_wholeThen_1 : decode cX3_wholeThen 1 = .ok (.iconst 0, 1) := by decide +kernel
theorem dX3_wholeThen_2 : decode cX3_wholeThen 2 = .ok (.bipush 99, 2) := by decide +kernel
theorem dX3_wholeThen_4 : decode cX3_wholeThen 4 = .ok (.invokestatic 147, 3) := by decide +kernel
theorem dX3_wholeThen_7 : decode cX3_wholeThen 7 = .ok (.istore_n 2, 1) := by decide +kernel
theorem dX3_wholeThen_8 : decode cX3_wholeThen 8 = .ok (.iload_n 2, 1) := by decide +kernel
theorem dX3_wholeThen_9 : decode cX3_wholeThen 9 = .ok (.ifCond .eq 9, 3) := by decide +kernel
theorem dX3_wholeThen_12 : decode cX3_wholeThen 12 = .ok (.aload_n 0, 1) := by decide +kernel
theorem dX3_wholeThen_13 : decode cX3_wholeThen 13 = .ok (.iload_n 2, 1) := by decide +kernel
theorem dX3_wholeThen_14 : decode cX3_wholeThen 14 = .ok (.invokevirtual 57, 3) := by decide +kernel
theorem dX3_wholeThen_17 : decode cX3_wholeThen 17 = .ok (.ireturn, 1) := by decide +kernel
theorem dX3_wholeThen_18 : decode cX3_wholeThen 18 = .ok (.aload_n 0, 1) := by decide +kernel
theorem dX3_wholeThen_19 : decode cX3_wholeThen 19 = .ok (.getfield 16, 3) := by decide +kernel
theorem dX3_wholeThen_22 : decode cX3_wholeThen 22 = .ok (.aload_n 0, 1) := by decide +kernel
theorem dX3_wholeThen_23 : decode cX3_wholeThen 23 = .ok (.getfield 10, 3) := by decide +kernel
theorem dX3_wholeThen_26 : decode cX3_wholeThen 26 = .ok (.invokevirtual 68, 3) := by decide +kernel
theorem dX3_wholeThen_29 : decode cX3_wholeThen 29 = .ok (.aload_n 0, 1) := by decide +kernel
theorem dX3_wholeThen_30 : decode cX3_wholeThen 30 = .ok (.getfield 16, 3) := by decide +kernel
theorem dX3_wholeThen_33 : decode cX3_wholeThen 33 = .ok (.iload_n 1, 1) := by decide +kernel
theorem dX3_wholeThen_34 : decode cX3_wholeThen 34 = .ok (.iconst 1, 1) := by decide +kernel
theorem dX3_wholeThen_35 : decode cX3_wholeThen 35 = .ok (.bipush (-9), 2) := by decide +kernel
theorem dX3_wholeThen_37 : decode cX3_wholeThen 37 = .ok (.invokevirtual 151, 3) := by decide +kernel
theorem dX3_wholeThen_40 : decode cX3_wholeThen 40 = .ok (.aload_n 0, 1) := by decide +kernel
theorem dX3_wholeThen_41 : decode cX3_wholeThen 41 = .ok (.getfield 16, 3) := by decide +kernel
theorem dX3_wholeThen_44 : decode cX3_wholeThen 44 = .ok (.invokevirtual 155, 3) := by decide +kernel
theorem dX3_wholeThen_47 : decode cX3_wholeThen 47 = .ok (.ireturn, 1) := by decide +kernel
set_option maxRecDepth 20000 in
theorem ggX3_brokenThen_X2_isThing : GoodIn wsX3_brokenThen wsX2_isThing := goodIn_r _ [8, 9, 95, 96, 97, 98, 99, 100, 101, 102, 103, 104] (by decide +kernel) (by decide +kernel)
set_option maxRecDepth 20000 in
theorem gX3_brokenThen_X2_isThing : GoodIn wsX3_brokenThen (wsV RX3 99 RX2 yX2_isThing wsX2_isThing) := goodIn_app (goodIn_of _ (by decide +kernel)) ggX3_brokenThen_X2_isThing
set_option maxRecDepth 20000 in
theorem ggX3_brokenThen_X3_refuse : GoodIn wsX3_brokenThen wsX3_refuse := goodIn_r _ [14, 15, 84, 85, 86, 87, 88, 89, 90, 91, 92, 93, 94] (by decide +kernel) (by decide +kernel)
set_option maxRecDepth 20000 in
theorem gX3_brokenThen_X3_refuse : GoodIn wsX3_brokenThen (wsV RX3 57 RX3 yX3_refuse wsX3_refuse) := goodIn_app (goodIn_of _ (by decide +kernel)) ggX3_brokenThen_X3_refuse
set_option maxRecDepth 20000 in
theorem ggX3_brokenThen_X3_outside : GoodIn wsX3_brokenThen wsX3_outside := goodIn_r _ [18] (by decide +kernel) (by decide +kernel)
set_option maxRecDepth 20000 in
theorem gX3_brokenThen_X3_outside : GoodIn wsX3_brokenThen (va_wsS RX3 147 yX3_outside wsX3_outside) := goodIn_app (goodIn_of _ (by decide +kernel)) ggX3_brokenThen_X3_outside
set_option maxRecDepth 20000 in
theorem ggX3_brokenThen_X2_become : GoodIn wsX3_brokenThen wsX2_become := goodIn_r _ [22, 23, 24, 25, 26, 27, 28, 29, 30, 31, 32, 33, 34, 9, 35, 95, 96, 97, 98, 99, 100, 101, 102, 103, 104] (by decide +kernel) (by decide +kernel)
set_option maxRecDepth 20000 in
theorem gX3_brokenThen_X2_become : GoodIn wsX3_brokenThen (wsV RX3 68 RX2 yX2_become wsX2_become) := goodIn_app (goodIn_of _ (by decide +kernel)) ggX3_brokenThen_X2_become
set_option maxRecDepth 20000 in
theorem ggX3_brokenThen_X2_pass : GoodIn wsX3_brokenThen wsX2_pass := goodIn_r _ [39, 35, 34, 40, 41, 42, 7, 43, 9, 44, 45, 46, 47, 33, 48, 49, 50, 51, 29, 30, 52, 53, 54, 55, 32, 56, 57, 58, 59, 60, 61, 62, 63, 64, 65, 66, 67, 23, 68, 69, 70, 71, 72, 73, 74, 75, 31, 76, 77, 78, 79, 80, 81, 82, 83, 28, 95, 96, 97, 98, 99, 100, 101, 102, 103, 104] (by decide +kernel) (by decide +kernel)
set_option maxRecDepth 20000 in
theorem gX3_brokenThen_X2_pass : GoodIn wsX3_brokenThen (wsV RX3 151 RX2 yX2_pass wsX2_pass) := goodIn_app (goodIn_of _ (by decide +kernel)) ggX3_brokenThen_X2_pass
theorem dX3_brokenThen_0 : decode cX3_brokenThen 0 = .ok (.aload_n 0, 1) := by decide +kernel
theorem dX3_brokenThen_1 : decode cX3_brokenThen 1 = .ok (.getfield 10, 3) := by decide +kernel
theorem dX3_brokenThen_4 : decode cX3_brokenThen 4 = .ok (.iload_n 1, 1) := by decide +kernel
theorem dX3_brokenThen_5 : decode cX3_brokenThen 5 = .ok (.invokevirtual 99, 3) := by decide +kernel
theorem dX3_brokenThen_8 : decode cX3_brokenThen 8 = .ok (.ifCond .ne 9, 3) := by decide +kernel
theorem dX3_brokenThen_11 : decode cX3_brokenThen 11 = .ok (.aload_n 0, 1) := by decide +kernel
theorem dX3_brokenThen_12 : decode cX3_brokenThen 12 = .ok (.iconst (-1), 1) := by decide +kernel
theorem dX3_brokenThen_13 : decode cX3_brokenThen 13 = .ok (.invokevirtual 57, 3) := by decide +kernel
theorem dX3_brokenThen_16 : decode cX3_brokenThen 16 = .ok (.ireturn, 1) := by decide +kernel
theorem dX3_brokenThen_17 : decode cX3_brokenThen 17 = .ok (.iload_n 2, 1) := by decide +kernel
theorem dX3_brokenThen_18 : decode cX3_brokenThen 18 = .ok (.iconst 0, 1) := by decide +kernel
theorem dX3_brokenThen_19 : decode cX3_brokenThen 19 = .ok (.bipush 99, 2) := by decide +kernel
theorem dX3_brokenThen_21 : decode cX3_brokenThen 21 = .ok (.invokestatic 147, 3) := by decide +kernel
theorem dX3_brokenThen_24 : decode cX3_brokenThen 24 = .ok (.istore_n 3, 1) := by decide +kernel
theorem dX3_brokenThen_25 : decode cX3_brokenThen 25 = .ok (.iload_n 3, 1) := by decide +kernel
theorem dX3_brokenThen_26 : decode cX3_brokenThen 26 = .ok (.ifCond .eq 9, 3) := by decide +kernel
theorem dX3_brokenThen_29 : decode cX3_brokenThen 29 = .ok (.aload_n 0, 1) := by decide +kernel
theorem dX3_brokenThen_30 : decode cX3_brokenThen 30 = .ok (.iload_n 3, 1) := by decide +kernel
theorem dX3_brokenThen_31 : decode cX3_brokenThen 31 = .ok (.invokevirtual 57, 3) := by decide +kernel
theorem dX3_brokenThen_34 : decode cX3_brokenThen 34 = .ok (.ireturn, 1) := by decide +kernel
theorem dX3_brokenThen_35 : decode cX3_brokenThen 35 = .ok (.aload_n 0, 1) := by decide +kernel
theorem dX3_brokenThen_36 : decode cX3_brokenThen 36 = .ok (.getfield 16, 3) := by decide +kernel
theorem dX3_brokenThen_39 : decode cX3_brokenThen 39 = .ok (.aload_n 0, 1) := by decide +kernel
theorem dX3_brokenThen_40 : decode cX3_brokenThen 40 = .ok (.getfield 10, 3) := by decide +kernel
theorem dX3_brokenThen_43 : decode cX3_brokenThen 43 = .ok (.invokevirtual 68, 3) := by decide +kernel
theorem dX3_brokenThen_46 : decode cX3_brokenThen 46 = .ok (.aload_n 0, 1) := by decide +kernel
theorem dX3_brokenThen_47 : decode cX3_brokenThen 47 = .ok (.getfield 16, 3) := by decide +kernel
theorem dX3_brokenThen_50 : decode cX3_brokenThen 50 = .ok (.iload_n 2, 1) := by decide +kernel
theorem dX3_brokenThen_51 : decode cX3_brokenThen 51 = .ok (.iconst 1, 1) := by decide +kernel
theorem dX3_brokenThen_52 : decode cX3_brokenThen 52 = .ok (.bipush (-9), 2) := by decide +kernel
theorem dX3_brokenThen_54 : decode cX3_brokenThen 54 = .ok (.invokevirtual 151, 3) := by decide +kernel
theorem dX3_brokenThen_57 : decode cX3_brokenThen 57 = .ok (.aload_n 0, 1) := by decide +kernel
theorem dX3_brokenThen_58 : decode cX3_brokenThen 58 = .ok (.getfield 16, 3) := by decide +kernel
theorem dX3_brokenThen_61 : decode cX3_brokenThen 61 = .ok (.getfield 114, 3) := by decide +kernel
theorem dX3_brokenThen_64 : decode cX3_brokenThen 64 = .ok (.iload_n 1, 1) := by decide +kernel
theorem dX3_brokenThen_65 : decode cX3_brokenThen 65 = .ok (.iaload, 1) := by decide +kernel
theorem dX3_brokenThen_66 : decode cX3_brokenThen 66 = .ok (.ireturn, 1) := by decide +kernel
set_option maxRecDepth 20000 in
theorem ggX3_mendedThen_X3_outside : GoodIn wsX3_mendedThen wsX3_outside := goodIn_r _ [6] (by decide +kernel) (by decide +kernel)
set_option maxRecDepth 20000 in
theorem gX3_mendedThen_X3_outside : GoodIn wsX3_mendedThen (va_wsS RX3 147 yX3_outside wsX3_outside) := goodIn_app (goodIn_of _ (by decide +kernel)) ggX3_mendedThen_X3_outside
set_option maxRecDepth 20000 in
theorem ggX3_mendedThen_X3_refuse : GoodIn wsX3_mendedThen wsX3_refuse := goodIn_r _ [10, 11, 83, 84, 85, 86, 87, 88, 89, 90, 91, 92, 93] (by decide +kernel) (by decide +kernel)
set_option maxRecDepth 20000 in
theorem gX3_mendedThen_X3_refuse : GoodIn wsX3_mendedThen (wsV RX3 57 RX3 yX3_refuse wsX3_refuse) := goodIn_app (goodIn_of _ (by decide +kernel)) ggX3_mendedThen_X3_refuse
set_option maxRecDepth 20000 in
theorem ggX3_mendedThen_X2_become : GoodIn wsX3_mendedThen wsX2_become := goodIn_r _ [16, 17, 18, 19, 20, 21, 22, 23, 24, 25, 26, 27, 28, 29, 30, 94, 95, 96, 97, 98, 99, 100, 101, 102, 103] (by decide +kernel) (by decide +kernel)
set_option maxRecDepth 20000 in
theorem gX3_mendedThen_X2_become : GoodIn wsX3_mendedThen (wsV RX3 68 RX2 yX2_become wsX2_become) := goodIn_app (goodIn_of _ (by decide +kernel)) ggX3_mendedThen_X2_become
set_option maxRecDepth 20000 in
theorem ggX3_mendedThen_X2_pass : GoodIn wsX3_mendedThen wsX2_pass := goodIn_r _ [34, 30, 28, 35, 36, 37, 15, 38, 29, 39, 40, 41, 42, 27, 43, 44, 45, 46, 23, 24, 47, 48, 49, 50, 26, 51, 52, 53, 54, 55, 56, 57, 58, 59, 60, 61, 62, 17, 63, 64, 65, 66, 67, 68, 69, 70, 25, 71, 72, 73, 74, 75, 76, 77, 78, 22, 94, 95, 96, 97, 98, 99, 100, 101, 102, 103] (by decide +kernel) (by decide +kernel)
set_option maxRecDepth 20000 in
theorem gX3_mendedThen_X2_pass : GoodIn wsX3_mendedThen (wsV RX3 151 RX2 yX2_pass wsX2_pass) := goodIn_app (goodIn_of _ (by decide +kernel)) ggX3_mendedThen_X2_pass
set_option maxRecDepth 20000 in
theorem ggX3_mendedThen_X2_mendedByAll : GoodIn wsX3_mendedThen wsX2_mendedByAll := goodIn_r _ [82, 28, 22, 94, 95, 96, 97, 98, 99, 100, 101, 102, 103] (by decide +kernel) (by decide +kernel)
set_option maxRecDepth 20000 in
theorem gX3_mendedThen_X2_mendedByAll : GoodIn wsX3_mendedThen (wsV RX3 158 RX2 yX2_mendedByAll wsX2_mendedByAll) := goodIn_app (goodIn_of _ (by decide +kernel)) ggX3_mendedThen_X2_mendedByAll
theorem dX3_mendedThen_0 : decode cX3_mendedThen 0 = .ok (.iload_n 1, 1) := by decide +kernel
theorem dX3_mendedThen_1 : decode cX3_mendedThen 1 = .ok (.iconst 0, 1) := by decide +kernel
theorem dX3_mendedThen_2 : decode cX3_mendedThen 2 = .ok (.bipush 99, 2) := by decide +kernel
theorem dX3_mendedThen_4 : decode cX3_mendedThen 4 = .ok (.invokestatic 147, 3) := by decide +kernel
theorem dX3_mendedThen_7 : decode cX3_mendedThen 7 = .ok (.istore_n 2, 1) := by decide +kernel
theorem dX3_mendedThen_8 : decode cX3_mendedThen 8 = .ok (.iload_n 2, 1) := by decide +kernel
theorem dX3_mendedThen_9 : decode cX3_mendedThen 9 = .ok (.ifCond .eq 9, 3) := by decide +kernel
theorem dX3_mendedThen_12 : decode cX3_mendedThen 12 = .ok (.aload_n 0, 1) := by decide +kernel
theorem dX3_mendedThen_13 : decode cX3_mendedThen 13 = .ok (.iload_n 2, 1) := by decide +kernel
theorem dX3_mendedThen_14 : decode cX3_mendedThen 14 = .ok (.invokevirtual 57, 3) := by decide +kernel
theorem dX3_mendedThen_17 : decode cX3_mendedThen 17 = .ok (.ireturn, 1) := by decide +kernel
theorem dX3_mendedThen_18 : decode cX3_mendedThen 18 = .ok (.aload_n 0, 1) := by decide +kernel
theorem dX3_mendedThen_19 : decode cX3_mendedThen 19 = .ok (.getfield 16, 3) := by decide +kernel
theorem dX3_mendedThen_22 : decode cX3_mendedThen 22 = .ok (.aload_n 0, 1) := by decide +kernel
theorem dX3_mendedThen_23 : decode cX3_mendedThen 23 = .ok (.getfield 10, 3) := by decide +kernel
theorem dX3_mendedThen_26 : decode cX3_mendedThen 26 = .ok (.invokevirtual 68, 3) := by decide +kernel
theorem dX3_mendedThen_29 : decode cX3_mendedThen 29 = .ok (.aload_n 0, 1) := by decide +kernel
theorem dX3_mendedThen_30 : decode cX3_mendedThen 30 = .ok (.getfield 16, 3) := by decide +kernel
theorem dX3_mendedThen_33 : decode cX3_mendedThen 33 = .ok (.iload_n 1, 1) := by decide +kernel
theorem dX3_mendedThen_34 : decode cX3_mendedThen 34 = .ok (.iconst 1, 1) := by decide +kernel
theorem dX3_mendedThen_35 : decode cX3_mendedThen 35 = .ok (.bipush (-9), 2) := by decide +kernel
theorem dX3_mendedThen_37 : decode cX3_mendedThen 37 = .ok (.invokevirtual 151, 3) := by decide +kernel
theorem dX3_mendedThen_40 : decode cX3_mendedThen 40 = .ok (.aload_n 0, 1) := by decide +kernel
theorem dX3_mendedThen_41 : decode cX3_mendedThen 41 = .ok (.getfield 16, 3) := by decide +kernel
theorem dX3_mendedThen_44 : decode cX3_mendedThen 44 = .ok (.invokevirtual 158, 3) := by decide +kernel
theorem dX3_mendedThen_47 : decode cX3_mendedThen 47 = .ok (.aload_n 0, 1) := by decide +kernel
theorem dX3_mendedThen_48 : decode cX3_mendedThen 48 = .ok (.getfield 10, 3) := by decide +kernel
theorem dX3_mendedThen_51 : decode cX3_mendedThen 51 = .ok (.invokevirtual 158, 3) := by decide +kernel
theorem dX3_mendedThen_54 : decode cX3_mendedThen 54 = .ok (.isub, 1) := by decide +kernel
theorem dX3_mendedThen_55 : decode cX3_mendedThen 55 = .ok (.ireturn, 1) := by decide +kernel
set_option maxRecDepth 20000 in
theorem ggX3_again_X2_isThing : GoodIn wsX3_again wsX2_isThing := goodIn_r _ [7, 8, 96, 97, 98, 99, 100, 101, 102, 103, 104, 105] (by decide +kernel) (by decide +kernel)
set_option maxRecDepth 20000 in
theorem gX3_again_X2_isThing : GoodIn wsX3_again (wsV RX3 99 RX2 yX2_isThing wsX2_isThing) := goodIn_app (goodIn_of _ (by decide +kernel)) ggX3_again_X2_isThing
set_option maxRecDepth 20000 in
theorem ggX3_again_X3_refuse : GoodIn wsX3_again wsX3_refuse := goodIn_r _ [13, 14, 85, 86, 87, 88, 89, 90, 91, 92, 93, 94, 95] (by decide +kernel) (by decide +kernel)
set_option maxRecDepth 20000 in
theorem gX3_again_X3_refuse : GoodIn wsX3_again (wsV RX3 57 RX3 yX3_refuse wsX3_refuse) := goodIn_app (goodIn_of _ (by decide +kernel)) ggX3_again_X3_refuse
set_option maxRecDepth 20000 in
theorem ggX3_again_X2_become : GoodIn wsX3_again wsX2_become := goodIn_r _ [18, 19, 20, 21, 22, 23, 24, 25, 26, 27, 28, 29, 30, 8, 31, 96, 97, 98, 99, 100, 101, 102, 103, 104, 105] (by decide +kernel) (by decide +kernel)
set_option maxRecDepth 20000 in
theorem gX3_again_X2_become : GoodIn wsX3_again (wsV RX3 68 RX2 yX2_become wsX2_become) := goodIn_app (goodIn_of _ (by decide +kernel)) ggX3_again_X2_become
set_option maxRecDepth 20000 in
theorem ggX3_again_X3_daysUntil : GoodIn wsX3_again wsX3_daysUntil := goodIn_r _ [35, 2, 36, 37, 38, 6, 39, 29, 40, 41, 42, 43, 31, 30, 44, 45, 46, 47, 8, 48, 49, 50, 51, 52, 25, 26, 53, 54, 55, 56, 28, 57, 58, 59, 60, 61, 62, 63, 64, 65, 66, 67, 68, 19, 69, 70, 71, 72, 73, 74, 75, 76, 27, 77, 78, 79, 80, 81, 82, 83, 84, 24, 85, 86, 87, 88, 89, 90, 91, 92, 93, 94, 95, 96, 97, 98, 99, 100, 101, 102, 103, 104, 105] (by decide +kernel) (by decide +kernel)
set_option maxRecDepth 20000 in
theorem gX3_again_X3_daysUntil : GoodIn wsX3_again (wsV RX3 161 RX3 yX3_daysUntil wsX3_daysUntil) := goodIn_app (goodIn_of _ (by decide +kernel)) ggX3_again_X3_daysUntil
theorem dX3_again_0 : decode cX3_again 0 = .ok (.aload_n 0, 1) := by decide +kernel
theorem dX3_again_1 : decode cX3_again 1 = .ok (.getfield 10, 3) := by decide +kernel
theorem dX3_again_4 : decode cX3_again 4 = .ok (.iload_n 1, 1) := by decide +kernel
theorem dX3_again_5 : decode cX3_again 5 = .ok (.invokevirtual 99, 3) := by decide +kernel
theorem dX3_again_8 : decode cX3_again 8 = .ok (.ifCond .ne 9, 3) := by decide +kernel
theorem dX3_again_11 : decode cX3_again 11 = .ok (.aload_n 0, 1) := by decide +kernel
theorem dX3_again_12 : decode cX3_again 12 = .ok (.iconst (-1), 1) := by decide +kernel
theorem dX3_again_13 : decode cX3_again 13 = .ok (.invokevirtual 57, 3) := by decide +kernel
theorem dX3_again_16 : decode cX3_again 16 = .ok (.ireturn, 1) := by decide +kernel
theorem dX3_again_17 : decode cX3_again 17 = .ok (.iload_n 2, 1) := by decide +kernel
theorem dX3_again_18 : decode cX3_again 18 = .ok (.ifCond .lt 8, 3) := by decide +kernel
theorem dX3_again_21 : decode cX3_again 21 = .ok (.iload_n 2, 1) := by decide +kernel
theorem dX3_again_22 : decode cX3_again 22 = .ok (.iconst 1, 1) := by decide +kernel
theorem dX3_again_23 : decode cX3_again 23 = .ok (.if_icmp .le 10, 3) := by decide +kernel
theorem dX3_again_26 : decode cX3_again 26 = .ok (.aload_n 0, 1) := by decide +kernel
theorem dX3_again_27 : decode cX3_again 27 = .ok (.bipush (-2), 2) := by decide +kernel
theorem dX3_again_29 : decode cX3_again 29 = .ok (.invokevirtual 57, 3) := by decide +kernel
theorem dX3_again_32 : decode cX3_again 32 = .ok (.ireturn, 1) := by decide +kernel
theorem dX3_again_33 : decode cX3_again 33 = .ok (.aload_n 0, 1) := by decide +kernel
theorem dX3_again_34 : decode cX3_again 34 = .ok (.getfield 16, 3) := by decide +kernel
theorem dX3_again_37 : decode cX3_again 37 = .ok (.aload_n 0, 1) := by decide +kernel
theorem dX3_again_38 : decode cX3_again 38 = .ok (.getfield 10, 3) := by decide +kernel
theorem dX3_again_41 : decode cX3_again 41 = .ok (.invokevirtual 68, 3) := by decide +kernel
theorem dX3_again_44 : decode cX3_again 44 = .ok (.aload_n 0, 1) := by decide +kernel
theorem dX3_again_45 : decode cX3_again 45 = .ok (.iload_n 1, 1) := by decide +kernel
theorem dX3_again_46 : decode cX3_again 46 = .ok (.iload_n 2, 1) := by decide +kernel
theorem dX3_again_47 : decode cX3_again 47 = .ok (.ifCond .ne 7, 3) := by decide +kernel
theorem dX3_again_50 : decode cX3_again 50 = .ok (.iconst 1, 1) := by decide +kernel
theorem dX3_again_51 : decode cX3_again 51 = .ok (.goto 4, 3) := by decide +kernel
theorem dX3_again_54 : decode cX3_again 54 = .ok (.iconst 0, 1) := by decide +kernel
theorem dX3_again_55 : decode cX3_again 55 = .ok (.invokevirtual 161, 3) := by decide +kernel
theorem dX3_again_58 : decode cX3_again 58 = .ok (.ireturn, 1) := by decide +kernel
set_option maxRecDepth 20000 in
theorem ggX3_daysUntil_X2_isWhole : GoodIn wsX3_daysUntil wsX2_isWhole := goodIn_r _ [6, 7, 73, 74, 75, 76, 77, 78, 79, 80, 81, 82] (by decide +kernel) (by decide +kernel)
set_option maxRecDepth 20000 in
theorem gX3_daysUntil_X2_isWhole : GoodIn wsX3_daysUntil (wsV RX3 127 RX2 yX2_isWhole wsX2_isWhole) := goodIn_app (goodIn_of _ (by decide +kernel)) ggX3_daysUntil_X2_isWhole
set_option maxRecDepth 20000 in
theorem ggX3_daysUntil_X2_pass : GoodIn wsX3_daysUntil wsX2_pass := goodIn_r _ [11, 12, 13, 14, 15, 16, 5, 17, 18, 19, 3, 4, 6, 7, 20, 21, 22, 23, 24, 25, 26, 27, 28, 29, 30, 31, 32, 33, 34, 35, 36, 37, 38, 39, 40, 41, 42, 43, 44, 45, 46, 47, 48, 49, 50, 51, 52, 53, 54, 55, 56, 57, 58, 59, 60, 61, 73, 74, 75, 76, 77, 78, 79, 80, 81, 82] (by decide +kernel) (by decide +kernel)
set_option maxRecDepth 20000 in
theorem gX3_daysUntil_X2_pass : GoodIn wsX3_daysUntil (wsV RX3 151 RX2 yX2_pass wsX2_pass) := goodIn_app (goodIn_of _ (by decide +kernel)) ggX3_daysUntil_X2_pass
theorem dX3_daysUntil_0 : decode cX3_daysUntil 0 = .ok (.iconst 0, 1) := by decide +kernel
theorem dX3_daysUntil_1 : decode cX3_daysUntil 1 = .ok (.istore_n 3, 1) := by decide +kernel
theorem dX3_daysUntil_2 : decode cX3_daysUntil 2 = .ok (.iload_n 3, 1) := by decide +kernel
theorem dX3_daysUntil_3 : decode cX3_daysUntil 3 = .ok (.bipush 99, 2) := by decide +kernel
theorem dX3_daysUntil_5 : decode cX3_daysUntil 5 = .ok (.if_icmp .gt 34, 3) := by decide +kernel
theorem dX3_daysUntil_8 : decode cX3_daysUntil 8 = .ok (.aload_n 0, 1) := by decide +kernel
theorem dX3_daysUntil_9 : decode cX3_daysUntil 9 = .ok (.getfield 16, 3) := by decide +kernel
theorem dX3_daysUntil_12 : decode cX3_daysUntil 12 = .ok (.iload_n 1, 1) := by decide +kernel
theorem dX3_daysUntil_13 : decode cX3_daysUntil 13 = .ok (.invokevirtual 127, 3) := by decide +kernel
theorem dX3_daysUntil_16 : decode cX3_daysUntil 16 = .ok (.iload_n 2, 1) := by decide +kernel
theorem dX3_daysUntil_17 : decode cX3_daysUntil 17 = .ok (.if_icmp .ne 5, 3) := by decide +kernel
theorem dX3_daysUntil_20 : decode cX3_daysUntil 20 = .ok (.iload_n 3, 1) := by decide +kernel
theorem dX3_daysUntil_21 : decode cX3_daysUntil 21 = .ok (.ireturn, 1) := by decide +kernel
theorem dX3_daysUntil_22 : decode cX3_daysUntil 22 = .ok (.aload_n 0, 1) := by decide +kernel
theorem dX3_daysUntil_23 : decode cX3_daysUntil 23 = .ok (.getfield 16, 3) := by decide +kernel
theorem dX3_daysUntil_26 : decode cX3_daysUntil 26 = .ok (.iconst 1, 1) := by decide +kernel
theorem dX3_daysUntil_27 : decode cX3_daysUntil 27 = .ok (.iconst 1, 1) := by decide +kernel
theorem dX3_daysUntil_28 : decode cX3_daysUntil 28 = .ok (.bipush (-9), 2) := by decide +kernel
theorem dX3_daysUntil_30 : decode cX3_daysUntil 30 = .ok (.invokevirtual 151, 3) := by decide +kernel
theorem dX3_daysUntil_33 : decode cX3_daysUntil 33 = .ok (.iinc 3 1, 3) := by decide +kernel
theorem dX3_daysUntil_36 : decode cX3_daysUntil 36 = .ok (.goto (-34), 3) := by decide +kernel
theorem dX3_daysUntil_39 : decode cX3_daysUntil 39 = .ok (.bipush (-9), 2) := by decide +kernel
theorem dX3_daysUntil_41 : decode cX3_daysUntil 41 = .ok (.ireturn, 1) := by decide +kernel
set_option maxRecDepth 20000 in
theorem ggX3_mourned_X3_refuse : GoodIn wsX3_mourned wsX3_refuse := goodIn_r _ [6, 7, 104, 105, 106, 107, 108, 109, 110, 111, 112, 113, 114] (by decide +kernel) (by decide +kernel)
set_option maxRecDepth 20000 in
theorem gX3_mourned_X3_refuse : GoodIn wsX3_mourned (wsV RX3 57 RX3 yX3_refuse wsX3_refuse) := goodIn_app (goodIn_of _ (by decide +kernel)) ggX3_mourned_X3_refuse
set_option maxRecDepth 20000 in
theorem ggX3_mourned_X2_mournedBits : GoodIn wsX3_mourned wsX2_mournedBits := goodIn_r _ [12, 13, 14, 15, 16, 11, 17, 18, 115, 116, 117, 118, 119, 120, 121, 122, 123, 124] (by decide +kernel) (by decide +kernel)
set_option maxRecDepth 20000 in
theorem gX3_mourned_X2_mournedBits : GoodIn wsX3_mourned (wsV RX3 165 RX2 yX2_mournedBits wsX2_mournedBits) := goodIn_app (goodIn_of _ (by decide +kernel)) ggX3_mourned_X2_mournedBits
set_option maxRecDepth 20000 in
theorem ggX3_mourned_X3_daysUntilAllWhole : GoodIn wsX3_mourned wsX3_daysUntilAllWhole := goodIn_r _ [22, 23, 1, 24, 25, 26, 27, 11, 28, 29, 30, 31, 32, 33, 34, 35, 36, 37, 38, 18, 39, 13, 40, 41, 42, 43, 44, 45, 46, 47, 48, 49, 50, 51, 52, 53, 54, 55, 56, 57, 58, 59, 60, 61, 62, 63, 64, 65, 66, 67, 68, 69, 70, 71, 72, 73, 74, 75, 76, 77, 78, 79, 80, 81, 82, 83, 84, 85, 86, 87, 88, 89, 90, 91, 92, 93, 94, 95, 96, 97, 98, 99, 100, 101, 102, 103, 104, 105, 106, 107, 108, 109, 110, 111, 112, 113, 114, 115, 116, 117, 118, 119, 120, 121, 122, 123, 124] (by decide +kernel) (by decide +kernel)
set_option maxRecDepth 20000 in
theorem gX3_mourned_X3_daysUntilAllWhole : GoodIn wsX3_mourned (wsV RX3 168 RX3 yX3_daysUntilAllWhole wsX3_daysUntilAllWhole) := goodIn_app (goodIn_of _ (by decide +kernel)) ggX3_mourned_X3_daysUntilAllWhole
theorem dX3_mourned_0 : decode cX3_mourned 0 = .ok (.iload_n 1, 1) := by decide +kernel
theorem dX3_mourned_1 : decode cX3_mourned 1 = .ok (.ifCond .lt 8, 3) := by decide +kernel
theorem dX3_mourned_4 : decode cX3_mourned 4 = .ok (.iload_n 1, 1) := by decide +kernel
theorem dX3_mourned_5 : decode cX3_mourned 5 = .ok (.iconst 1, 1) := by decide +kernel
theorem dX3_mourned_6 : decode cX3_mourned 6 = .ok (.if_icmp .le 10, 3) := by decide +kernel
theorem dX3_mourned_9 : decode cX3_mourned 9 = .ok (.aload_n 0, 1) := by decide +kernel
theorem dX3_mourned_10 : decode cX3_mourned 10 = .ok (.bipush (-2), 2) := by decide +kernel
theorem dX3_mourned_12 : decode cX3_mourned 12 = .ok (.invokevirtual 57, 3) := by decide +kernel
theorem dX3_mourned_15 : decode cX3_mourned 15 = .ok (.ireturn, 1) := by decide +kernel
theorem dX3_mourned_16 : decode cX3_mourned 16 = .ok (.iload_n 1, 1) := by decide +kernel
theorem dX3_mourned_17 : decode cX3_mourned 17 = .ok (.ifCond .ne 13, 3) := by decide +kernel
theorem dX3_mourned_20 : decode cX3_mourned 20 = .ok (.aload_n 0, 1) := by decide +kernel
theorem dX3_mourned_21 : decode cX3_mourned 21 = .ok (.getfield 10, 3) := by decide +kernel
theorem dX3_mourned_24 : decode cX3_mourned 24 = .ok (.invokevirtual 165, 3) := by decide +kernel
theorem dX3_mourned_27 : decode cX3_mourned 27 = .ok (.goto 7, 3) := by decide +kernel
theorem dX3_mourned_30 : decode cX3_mourned 30 = .ok (.aload_n 0, 1) := by decide +kernel
theorem dX3_mourned_31 : decode cX3_mourned 31 = .ok (.invokevirtual 168, 3) := by decide +kernel
theorem dX3_mourned_34 : decode cX3_mourned 34 = .ok (.ireturn, 1) := by decide +kernel
set_option maxRecDepth 20000 in
theorem ggX3_daysUntilAllWhole_X2_become : GoodIn wsX3_daysUntilAllWhole wsX2_become := goodIn_r _ [8, 9, 10, 11, 12, 13, 14, 15, 16, 17, 18, 19, 20, 21, 22, 97, 98, 99, 100, 101, 102, 103, 104, 105, 106] (by decide +kernel) (by decide +kernel)
set_option maxRecDepth 20000 in
theorem gX3_daysUntilAllWhole_X2_become : GoodIn wsX3_daysUntilAllWhole (wsV RX3 68 RX2 yX2_become wsX2_become) := goodIn_app (goodIn_of _ (by decide +kernel)) ggX3_daysUntilAllWhole_X2_become
set_option maxRecDepth 20000 in
theorem ggX3_daysUntilAllWhole_X2_wholeCount : GoodIn wsX3_daysUntilAllWhole wsX2_wholeCount := goodIn_r _ [26, 27, 28, 29, 7, 30, 21, 31, 32, 33, 34, 19, 35, 36, 37, 38, 39, 40, 41, 97, 98, 99, 100, 101, 102, 103, 104, 105, 106] (by decide +kernel) (by decide +kernel)
set_option maxRecDepth 20000 in
theorem gX3_daysUntilAllWhole_X2_wholeCount : GoodIn wsX3_daysUntilAllWhole (wsV RX3 130 RX2 yX2_wholeCount wsX2_wholeCount) := goodIn_app (goodIn_of _ (by decide +kernel)) ggX3_daysUntilAllWhole_X2_wholeCount
set_option maxRecDepth 20000 in
theorem ggX3_daysUntilAllWhole_X2_pass : GoodIn wsX3_daysUntilAllWhole wsX2_pass := goodIn_r _ [45, 22, 20, 46, 47, 48, 7, 49, 21, 31, 32, 33, 34, 19, 50, 51, 52, 53, 15, 16, 54, 55, 56, 57, 18, 58, 59, 60, 61, 62, 63, 64, 65, 66, 67, 68, 69, 9, 70, 71, 72, 73, 74, 75, 76, 77, 17, 78, 79, 80, 81, 82, 83, 84, 85, 14, 97, 98, 99, 100, 101, 102, 103, 104, 105, 106] (by decide +kernel) (by decide +kernel)
set_option maxRecDepth 20000 in
theorem gX3_daysUntilAllWhole_X2_pass : GoodIn wsX3_daysUntilAllWhole (wsV RX3 151 RX2 yX2_pass wsX2_pass) := goodIn_app (goodIn_of _ (by decide +kernel)) ggX3_daysUntilAllWhole_X2_pass
theorem dX3_daysUntilAllWhole_0 : decode cX3_daysUntilAllWhole 0 = .ok (.aload_n 0, 1) := by decide +kernel
theorem dX3_daysUntilAllWhole_1 : decode cX3_daysUntilAllWhole 1 = .ok (.getfield 16, 3) := by decide +kernel
theorem dX3_daysUntilAllWhole_4 : decode cX3_daysUntilAllWhole 4 = .ok (.aload_n 0, 1) := by decide +kernel
theorem dX3_daysUntilAllWhole_5 : decode cX3_daysUntilAllWhole 5 = .ok (.getfield 10, 3) := by decide +kernel
theorem dX3_daysUntilAllWhole_8 : decode cX3_daysUntilAllWhole 8 = .ok (.invokevirtual 68, 3) := by decide +kernel
theorem dX3_daysUntilAllWhole_11 : decode cX3_daysUntilAllWhole 11 = .ok (.iconst 0, 1) := by decide +kernel
theorem dX3_daysUntilAllWhole_12 : decode cX3_daysUntilAllWhole 12 = .ok (.istore_n 1, 1) := by decide +kernel
theorem dX3_daysUntilAllWhole_13 : decode cX3_daysUntilAllWhole 13 = .ok (.iload_n 1, 1) := by decide +kernel
theorem dX3_daysUntilAllWhole_14 : decode cX3_daysUntilAllWhole 14 = .ok (.bipush 99, 2) := by decide +kernel
theorem dX3_daysUntilAllWhole_16 : decode cX3_daysUntilAllWhole 16 = .ok (.if_icmp .gt 39, 3) := by decide +kernel
theorem dX3_daysUntilAllWhole_19 : decode cX3_daysUntilAllWhole 19 = .ok (.aload_n 0, 1) := by decide +kernel
theorem dX3_daysUntilAllWhole_20 : decode cX3_daysUntilAllWhole 20 = .ok (.getfield 16, 3) := by decide +kernel
theorem dX3_daysUntilAllWhole_23 : decode cX3_daysUntilAllWhole 23 = .ok (.invokevirtual 130, 3) := by decide +kernel
theorem dX3_daysUntilAllWhole_26 : decode cX3_daysUntilAllWhole 26 = .ok (.aload_n 0, 1) := by decide +kernel
theorem dX3_daysUntilAllWhole_27 : decode cX3_daysUntilAllWhole 27 = .ok (.getfield 16, 3) := by decide +kernel
theorem dX3_daysUntilAllWhole_30 : decode cX3_daysUntilAllWhole 30 = .ok (.getfield 171, 3) := by decide +kernel
theorem dX3_daysUntilAllWhole_33 : decode cX3_daysUntilAllWhole 33 = .ok (.if_icmp .ne 5, 3) := by decide +kernel
theorem dX3_daysUntilAllWhole_36 : decode cX3_daysUntilAllWhole 36 = .ok (.iload_n 1, 1) := by decide +kernel
theorem dX3_daysUntilAllWhole_37 : decode cX3_daysUntilAllWhole 37 = .ok (.ireturn, 1) := by decide +kernel
theorem dX3_daysUntilAllWhole_38 : decode cX3_daysUntilAllWhole 38 = .ok (.aload_n 0, 1) := by decide +kernel
theorem dX3_daysUntilAllWhole_39 : decode cX3_daysUntilAllWhole 39 = .ok (.getfield 16, 3) := by decide +kernel
theorem dX3_daysUntilAllWhole_42 : decode cX3_daysUntilAllWhole 42 = .ok (.iconst 1, 1) := by decide +kernel
theorem dX3_daysUntilAllWhole_43 : decode cX3_daysUntilAllWhole 43 = .ok (.iconst 1, 1) := by decide +kernel
theorem dX3_daysUntilAllWhole_44 : decode cX3_daysUntilAllWhole 44 = .ok (.bipush (-9), 2) := by decide +kernel
theorem dX3_daysUntilAllWhole_46 : decode cX3_daysUntilAllWhole 46 = .ok (.invokevirtual 151, 3) := by decide +kernel
theorem dX3_daysUntilAllWhole_49 : decode cX3_daysUntilAllWhole 49 = .ok (.iinc 1 1, 3) := by decide +kernel
theorem dX3_daysUntilAllWhole_52 : decode cX3_daysUntilAllWhole 52 = .ok (.goto (-39), 3) := by decide +kernel
theorem dX3_daysUntilAllWhole_55 : decode cX3_daysUntilAllWhole 55 = .ok (.bipush (-9), 2) := by decide +kernel
theorem dX3_daysUntilAllWhole_57 : decode cX3_daysUntilAllWhole 57 = .ok (.ireturn, 1) := by decide +kernel
set_option maxRecDepth 20000 in
theorem ggX3_first_X3_refuse : GoodIn wsX3_first wsX3_refuse := goodIn_r _ [7, 8, 82, 83, 84, 85, 86, 87, 88, 89, 90, 91, 92] (by decide +kernel) (by decide +kernel)
set_option maxRecDepth 20000 in
theorem gX3_first_X3_refuse : GoodIn wsX3_first (wsV RX3 57 RX3 yX3_refuse wsX3_refuse) := goodIn_app (goodIn_of _ (by decide +kernel)) ggX3_first_X3_refuse
set_option maxRecDepth 20000 in
theorem ggX3_first_X2_become : GoodIn wsX3_first wsX2_become := goodIn_r _ [13, 14, 15, 16, 17, 18, 19, 20, 21, 22, 23, 24, 25, 26, 27, 93, 94, 95, 96, 97, 98, 99, 100, 101, 102] (by decide +kernel) (by decide +kernel)
set_option maxRecDepth 20000 in
theorem gX3_first_X2_become : GoodIn wsX3_first (wsV RX3 68 RX2 yX2_become wsX2_become) := goodIn_app (goodIn_of _ (by decide +kernel)) ggX3_first_X2_become
set_option maxRecDepth 20000 in
theorem ggX3_first_X2_pass : GoodIn wsX3_first wsX2_pass := goodIn_r _ [31, 27, 25, 32, 33, 34, 12, 35, 26, 36, 37, 38, 39, 24, 40, 41, 42, 43, 20, 21, 44, 45, 46, 47, 23, 48, 49, 50, 51, 52, 53, 54, 55, 56, 57, 58, 59, 14, 60, 61, 62, 63, 64, 65, 66, 67, 22, 68, 69, 70, 71, 72, 73, 74, 75, 19, 93, 94, 95, 96, 97, 98, 99, 100, 101, 102] (by decide +kernel) (by decide +kernel)
set_option maxRecDepth 20000 in
theorem gX3_first_X2_pass : GoodIn wsX3_first (wsV RX3 151 RX2 yX2_pass wsX2_pass) := goodIn_app (goodIn_of _ (by decide +kernel)) ggX3_first_X2_pass
set_option maxRecDepth 20000 in
theorem ggX3_first_X3_firstLost : GoodIn wsX3_first wsX3_firstLost := goodIn_r _ [79, 2, 80, 1, 81, 37, 38, 12, 39, 24, 82, 83, 84, 85, 86, 87, 88, 89, 90, 91, 92, 93, 94, 95, 96, 97, 98, 99, 100, 101, 102] (by decide +kernel) (by decide +kernel)
set_option maxRecDepth 20000 in
theorem gX3_first_X3_firstLost : GoodIn wsX3_first (wsV RX3 174 RX3 yX3_firstLost wsX3_firstLost) := goodIn_app (goodIn_of _ (by decide +kernel)) ggX3_first_X3_firstLost
theorem dX3_first_0 : decode cX3_first 0 = .ok (.iload_n 1, 1) := by decide +kernel
theorem dX3_first_1 : decode cX3_first 1 = .ok (.ifCond .lt 8, 3) := by decide +kernel
theorem dX3_first_4 : decode cX3_first 4 = .ok (.iload_n 1, 1) := by decide +kernel
theorem dX3_first_5 : decode cX3_first 5 = .ok (.iconst 1, 1) := by decide +kernel
theorem dX3_first_6 : decode cX3_first 6 = .ok (.if_icmp .le 10, 3) := by decide +kernel
theorem dX3_first_9 : decode cX3_first 9 = .ok (.aload_n 0, 1) := by decide +kernel
theorem dX3_first_10 : decode cX3_first 10 = .ok (.bipush (-2), 2) := by decide +kernel
theorem dX3_first_12 : decode cX3_first 12 = .ok (.invokevirtual 57, 3) := by decide +kernel
theorem dX3_first_15 : decode cX3_first 15 = .ok (.ireturn, 1) := by decide +kernel
theorem dX3_first_16 : decode cX3_first 16 = .ok (.aload_n 0, 1) := by decide +kernel
theorem dX3_first_17 : decode cX3_first 17 = .ok (.getfield 16, 3) := by decide +kernel
theorem dX3_first_20 : decode cX3_first 20 = .ok (.aload_n 0, 1) := by decide +kernel
theorem dX3_first_21 : decode cX3_first 21 = .ok (.getfield 10, 3) := by decide +kernel
theorem dX3_first_24 : decode cX3_first 24 = .ok (.invokevirtual 68, 3) := by decide +kernel
theorem dX3_first_27 : decode cX3_first 27 = .ok (.iconst 1, 1) := by decide +kernel
theorem dX3_first_28 : decode cX3_first 28 = .ok (.istore_n 2, 1) := by decide +kernel
theorem dX3_first_29 : decode cX3_first 29 = .ok (.iload_n 2, 1) := by decide +kernel
theorem dX3_first_30 : decode cX3_first 30 = .ok (.bipush 99, 2) := by decide +kernel
theorem dX3_first_32 : decode cX3_first 32 = .ok (.if_icmp .gt 41, 3) := by decide +kernel
theorem dX3_first_35 : decode cX3_first 35 = .ok (.aload_n 0, 1) := by decide +kernel
theorem dX3_first_36 : decode cX3_first 36 = .ok (.getfield 16, 3) := by decide +kernel
theorem dX3_first_39 : decode cX3_first 39 = .ok (.iconst 1, 1) := by decide +kernel
theorem dX3_first_40 : decode cX3_first 40 = .ok (.iconst 1, 1) := by decide +kernel
theorem dX3_first_41 : decode cX3_first 41 = .ok (.bipush (-9), 2) := by decide +kernel
theorem dX3_first_43 : decode cX3_first 43 = .ok (.invokevirtual 151, 3) := by decide +kernel
theorem dX3_first_46 : decode cX3_first 46 = .ok (.aload_n 0, 1) := by decide +kernel
theorem dX3_first_47 : decode cX3_first 47 = .ok (.invokevirtual 174, 3) := by decide +kernel
theorem dX3_first_50 : decode cX3_first 50 = .ok (.istore_n 3, 1) := by decide +kernel
theorem dX3_first_51 : decode cX3_first 51 = .ok (.iload_n 3, 1) := by decide +kernel
theorem dX3_first_52 : decode cX3_first 52 = .ok (.bipush (-9), 2) := by decide +kernel
theorem dX3_first_54 : decode cX3_first 54 = .ok (.if_icmp .eq 13, 3) := by decide +kernel
theorem dX3_first_57 : decode cX3_first 57 = .ok (.iload_n 1, 1) := by decide +kernel
theorem dX3_first_58 : decode cX3_first 58 = .ok (.ifCond .ne 7, 3) := by decide +kernel
theorem dX3_first_61 : decode cX3_first 61 = .ok (.iload_n 3, 1) := by decide +kernel
theorem dX3_first_62 : decode cX3_first 62 = .ok (.goto 4, 3) := by decide +kernel
theorem dX3_first_65 : decode cX3_first 65 = .ok (.iload_n 2, 1) := by decide +kernel
theorem dX3_first_66 : decode cX3_first 66 = .ok (.ireturn, 1) := by decide +kernel
theorem dX3_first_67 : decode cX3_first 67 = .ok (.iinc 2 1, 3) := by decide +kernel
theorem dX3_first_70 : decode cX3_first 70 = .ok (.goto (-41), 3) := by decide +kernel
theorem dX3_first_73 : decode cX3_first 73 = .ok (.bipush (-9), 2) := by decide +kernel
theorem dX3_first_75 : decode cX3_first 75 = .ok (.ireturn, 1) := by decide +kernel
set_option maxRecDepth 20000 in
theorem ggX3_firstLost_X2_isWhole : GoodIn wsX3_firstLost wsX2_isWhole := goodIn_r _ [8, 9, 21, 22, 23, 24, 25, 26, 27, 28, 29, 30] (by decide +kernel) (by decide +kernel)
set_option maxRecDepth 20000 in
theorem gX3_firstLost_X2_isWhole : GoodIn wsX3_firstLost (wsV RX3 127 RX2 yX2_isWhole wsX2_isWhole) := goodIn_app (goodIn_of _ (by decide +kernel)) ggX3_firstLost_X2_isWhole
theorem dX3_firstLost_0 : decode cX3_firstLost 0 = .ok (.iconst 0, 1) := by decide +kernel
theorem dX3_firstLost_1 : decode cX3_firstLost 1 = .ok (.istore_n 1, 1) := by decide +kernel
theorem dX3_firstLost_2 : decode cX3_firstLost 2 = .ok (.iload_n 1, 1) := by decide +kernel
theorem dX3_firstLost_3 : decode cX3_firstLost 3 = .ok (.aload_n 0, 1) := by decide +kernel
theorem dX3_firstLost_4 : decode cX3_firstLost 4 = .ok (.getfield 10, 3) := by decide +kernel
theorem dX3_firstLost_7 : decode cX3_firstLost 7 = .ok (.getfield 171, 3) := by decide +kernel
theorem dX3_firstLost_10 : decode cX3_firstLost 10 = .ok (.if_icmp .ge 33, 3) := by decide +kernel
theorem dX3_firstLost_13 : decode cX3_firstLost 13 = .ok (.aload_n 0, 1) := by decide +kernel
theorem dX3_firstLost_14 : decode cX3_firstLost 14 = .ok (.getfield 10, 3) := by decide +kernel
theorem dX3_firstLost_17 : decode cX3_firstLost 17 = .ok (.iload_n 1, 1) := by decide +kernel
theorem dX3_firstLost_18 : decode cX3_firstLost 18 = .ok (.invokevirtual 127, 3) := by decide +kernel
theorem dX3_firstLost_21 : decode cX3_firstLost 21 = .ok (.ifCond .eq 16, 3) := by decide +kernel
theorem dX3_firstLost_24 : decode cX3_firstLost 24 = .ok (.aload_n 0, 1) := by decide +kernel
theorem dX3_firstLost_25 : decode cX3_firstLost 25 = .ok (.getfield 16, 3) := by decide +kernel
theorem dX3_firstLost_28 : decode cX3_firstLost 28 = .ok (.iload_n 1, 1) := by decide +kernel
theorem dX3_firstLost_29 : decode cX3_firstLost 29 = .ok (.invokevirtual 127, 3) := by decide +kernel
theorem dX3_firstLost_32 : decode cX3_firstLost 32 = .ok (.ifCond .ne 5, 3) := by decide +kernel
theorem dX3_firstLost_35 : decode cX3_firstLost 35 = .ok (.iload_n 1, 1) := by decide +kernel
theorem dX3_firstLost_36 : decode cX3_firstLost 36 = .ok (.ireturn, 1) := by decide +kernel
theorem dX3_firstLost_37 : decode cX3_firstLost 37 = .ok (.iinc 1 1, 3) := by decide +kernel
theorem dX3_firstLost_40 : decode cX3_firstLost 40 = .ok (.goto (-38), 3) := by decide +kernel
theorem dX3_firstLost_43 : decode cX3_firstLost 43 = .ok (.bipush (-9), 2) := by decide +kernel
theorem dX3_firstLost_45 : decode cX3_firstLost 45 = .ok (.ireturn, 1) := by decide +kernel
set_option maxRecDepth 20000 in
theorem ggX3_menders_X2_isThing : GoodIn wsX3_menders wsX2_isThing := goodIn_r _ [6, 7, 46, 47, 48, 49, 50, 51, 52, 53, 54, 55] (by decide +kernel) (by decide +kernel)
set_option maxRecDepth 20000 in
theorem gX3_menders_X2_isThing : GoodIn wsX3_menders (wsV RX3 99 RX2 yX2_isThing wsX2_isThing) := goodIn_app (goodIn_of _ (by decide +kernel)) ggX3_menders_X2_isThing
set_option maxRecDepth 20000 in
theorem ggX3_menders_X3_refuse : GoodIn wsX3_menders wsX3_refuse := goodIn_r _ [12, 13, 35, 36, 37, 38, 39, 40, 41, 42, 43, 44, 45] (by decide +kernel) (by decide +kernel)
set_option maxRecDepth 20000 in
theorem gX3_menders_X3_refuse : GoodIn wsX3_menders (wsV RX3 57 RX3 yX3_refuse wsX3_refuse) := goodIn_app (goodIn_of _ (by decide +kernel)) ggX3_menders_X3_refuse
set_option maxRecDepth 20000 in
theorem ggX3_menders_X2_ableBits : GoodIn wsX3_menders wsX2_ableBits := goodIn_r _ [17, 18, 19, 20, 21, 22, 5, 23, 24, 25, 26, 27, 28, 29, 30, 31, 32, 33, 34, 46, 47, 48, 49, 50, 51, 52, 53, 54, 55] (by decide +kernel) (by decide +kernel)
set_option maxRecDepth 20000 in
theorem gX3_menders_X2_ableBits : GoodIn wsX3_menders (wsV RX3 177 RX2 yX2_ableBits wsX2_ableBits) := goodIn_app (goodIn_of _ (by decide +kernel)) ggX3_menders_X2_ableBits
theorem dX3_menders_0 : decode cX3_menders 0 = .ok (.aload_n 0, 1) := by decide +kernel
theorem dX3_menders_1 : decode cX3_menders 1 = .ok (.getfield 10, 3) := by decide +kernel
theorem dX3_menders_4 : decode cX3_menders 4 = .ok (.iload_n 1, 1) := by decide +kernel
theorem dX3_menders_5 : decode cX3_menders 5 = .ok (.invokevirtual 99, 3) := by decide +kernel
theorem dX3_menders_8 : decode cX3_menders 8 = .ok (.ifCond .ne 9, 3) := by decide +kernel
theorem dX3_menders_11 : decode cX3_menders 11 = .ok (.aload_n 0, 1) := by decide +kernel
theorem dX3_menders_12 : decode cX3_menders 12 = .ok (.iconst (-1), 1) := by decide +kernel
theorem dX3_menders_13 : decode cX3_menders 13 = .ok (.invokevirtual 57, 3) := by decide +kernel
theorem dX3_menders_16 : decode cX3_menders 16 = .ok (.ireturn, 1) := by decide +kernel
theorem dX3_menders_17 : decode cX3_menders 17 = .ok (.aload_n 0, 1) := by decide +kernel
theorem dX3_menders_18 : decode cX3_menders 18 = .ok (.getfield 10, 3) := by decide +kernel
theorem dX3_menders_21 : decode cX3_menders 21 = .ok (.iload_n 1, 1) := by decide +kernel
theorem dX3_menders_22 : decode cX3_menders 22 = .ok (.invokevirtual 177, 3) := by decide +kernel
theorem dX3_menders_25 : decode cX3_menders 25 = .ok (.ireturn, 1) := by decide +kernel
set_option maxRecDepth 20000 in
theorem ggX3_together_X2_isThing : GoodIn wsX3_together wsX2_isThing := goodIn_r _ [7, 8, 78, 79, 80, 81, 82, 83, 84, 85, 86, 87] (by decide +kernel) (by decide +kernel)
set_option maxRecDepth 20000 in
theorem gX3_together_X2_isThing : GoodIn wsX3_together (wsV RX3 99 RX2 yX2_isThing wsX2_isThing) := goodIn_app (goodIn_of _ (by decide +kernel)) ggX3_together_X2_isThing
set_option maxRecDepth 20000 in
theorem ggX3_together_X3_refuse : GoodIn wsX3_together wsX3_refuse := goodIn_r _ [13, 14, 67, 68, 69, 70, 71, 72, 73, 74, 75, 76, 77] (by decide +kernel) (by decide +kernel)
set_option maxRecDepth 20000 in
theorem gX3_together_X3_refuse : GoodIn wsX3_together (wsV RX3 57 RX3 yX3_refuse wsX3_refuse) := goodIn_app (goodIn_of _ (by decide +kernel)) ggX3_together_X3_refuse
set_option maxRecDepth 20000 in
theorem ggX3_together_X1_fill : GoodIn wsX3_together wsX1_fill := goodIn_r _ [19, 20, 21, 22, 23, 24, 18, 25, 26, 27, 28, 29, 30, 31, 32, 33, 34, 35, 36, 6, 37, 38, 39, 40, 41, 42, 43, 44, 45, 46, 47, 48, 49, 50, 51, 52, 53, 54, 88, 78, 79, 80, 81, 82, 83, 84, 85, 86, 87] (by decide +kernel) (by decide +kernel)
set_option maxRecDepth 20000 in
theorem gX3_together_X1_fill : GoodIn wsX3_together (wsV RX3 180 RX1 yX1_fill wsX1_fill) := goodIn_app (goodIn_of _ (by decide +kernel)) ggX3_together_X1_fill
set_option maxRecDepth 20000 in
theorem ggX3_together_X1_most : GoodIn wsX3_together wsX1_most := goodIn_r _ [58, 20, 88] (by decide +kernel) (by decide +kernel)
set_option maxRecDepth 20000 in
theorem gX3_together_X1_most : GoodIn wsX3_together (wsV RX3 183 RX1 yX1_most wsX1_most) := goodIn_app (goodIn_of _ (by decide +kernel)) ggX3_together_X1_most
set_option maxRecDepth 20000 in
theorem ggX3_together_X1_menderOf : GoodIn wsX3_together wsX1_menderOf := goodIn_r _ [62, 63, 64, 65, 18, 66, 20, 26, 31, 32, 33, 34, 35, 36, 6, 37, 38, 39, 40, 41, 42, 43, 44, 45, 46, 29, 47, 48, 49, 50, 51, 52, 53, 54, 88, 78, 79, 80, 81, 82, 83, 84, 85, 86, 87] (by decide +kernel) (by decide +kernel)
set_option maxRecDepth 20000 in
theorem gX3_together_X1_menderOf : GoodIn wsX3_together (wsV RX3 186 RX1 yX1_menderOf wsX1_menderOf) := goodIn_app (goodIn_of _ (by decide +kernel)) ggX3_together_X1_menderOf
theorem dX3_together_0 : decode cX3_together 0 = .ok (.iload_n 1, 1) := by decide +kernel
theorem dX3_together_1 : decode cX3_together 1 = .ok (.iconst (-1), 1) := by decide +kernel
theorem dX3_together_2 : decode cX3_together 2 = .ok (.if_icmp .eq 20, 3) := by decide +kernel
theorem dX3_together_5 : decode cX3_together 5 = .ok (.aload_n 0, 1) := by decide +kernel
theorem dX3_together_6 : decode cX3_together 6 = .ok (.getfield 10, 3) := by decide +kernel
theorem dX3_together_9 : decode cX3_together 9 = .ok (.iload_n 1, 1) := by decide +kernel
theorem dX3_together_10 : decode cX3_together 10 = .ok (.invokevirtual 99, 3) := by decide +kernel
theorem dX3_together_13 : decode cX3_together 13 = .ok (.ifCond .ne 9, 3) := by decide +kernel
theorem dX3_together_16 : decode cX3_together 16 = .ok (.aload_n 0, 1) := by decide +kernel
theorem dX3_together_17 : decode cX3_together 17 = .ok (.iconst (-1), 1) := by decide +kernel
theorem dX3_together_18 : decode cX3_together 18 = .ok (.invokevirtual 57, 3) := by decide +kernel
theorem dX3_together_21 : decode cX3_together 21 = .ok (.ireturn, 1) := by decide +kernel
theorem dX3_together_22 : decode cX3_together 22 = .ok (.aload_n 0, 1) := by decide +kernel
theorem dX3_together_23 : decode cX3_together 23 = .ok (.getfield 47, 3) := by decide +kernel
theorem dX3_together_26 : decode cX3_together 26 = .ok (.aload_n 0, 1) := by decide +kernel
theorem dX3_together_27 : decode cX3_together 27 = .ok (.getfield 10, 3) := by decide +kernel
theorem dX3_together_30 : decode cX3_together 30 = .ok (.invokevirtual 180, 3) := by decide +kernel
theorem dX3_together_33 : decode cX3_together 33 = .ok (.iload_n 1, 1) := by decide +kernel
theorem dX3_together_34 : decode cX3_together 34 = .ok (.iconst (-1), 1) := by decide +kernel
theorem dX3_together_35 : decode cX3_together 35 = .ok (.if_icmp .ne 13, 3) := by decide +kernel
theorem dX3_together_38 : decode cX3_together 38 = .ok (.aload_n 0, 1) := by decide +kernel
theorem dX3_together_39 : decode cX3_together 39 = .ok (.getfield 47, 3) := by decide +kernel
theorem dX3_together_42 : decode cX3_together 42 = .ok (.invokevirtual 183, 3) := by decide +kernel
theorem dX3_together_45 : decode cX3_together 45 = .ok (.goto 15, 3) := by decide +kernel
theorem dX3_together_48 : decode cX3_together 48 = .ok (.aload_n 0, 1) := by decide +kernel
theorem dX3_together_49 : decode cX3_together 49 = .ok (.getfield 47, 3) := by decide +kernel
theorem dX3_together_52 : decode cX3_together 52 = .ok (.aload_n 0, 1) := by decide +kernel
theorem dX3_together_53 : decode cX3_together 53 = .ok (.getfield 10, 3) := by decide +kernel
theorem dX3_together_56 : decode cX3_together 56 = .ok (.iload_n 1, 1) := by decide +kernel
theorem dX3_together_57 : decode cX3_together 57 = .ok (.invokevirtual 186, 3) := by decide +kernel
theorem dX3_together_60 : decode cX3_together 60 = .ok (.ireturn, 1) := by decide +kernel
set_option maxRecDepth 20000 in
theorem ggX3_lost_X2_isWhole : GoodIn wsX3_lost wsX2_isWhole := goodIn_r _ [7, 8, 45, 46, 47, 48, 49, 50, 51, 52, 53, 54] (by decide +kernel) (by decide +kernel)
set_option maxRecDepth 20000 in
theorem gX3_lost_X2_isWhole : GoodIn wsX3_lost (wsV RX3 127 RX2 yX2_isWhole wsX2_isWhole) := goodIn_app (goodIn_of _ (by decide +kernel)) ggX3_lost_X2_isWhole
set_option maxRecDepth 20000 in
theorem ggX3_lost_X2_mendersNow : GoodIn wsX3_lost wsX2_mendersNow := goodIn_r _ [12, 13, 14, 15, 16, 6, 17, 8, 18, 19, 20, 21, 22, 23, 24, 25, 26, 27, 28, 29, 30, 31, 32, 33, 45, 46, 47, 48, 49, 50, 51, 52, 53, 54] (by decide +kernel) (by decide +kernel)
set_option maxRecDepth 20000 in
theorem gX3_lost_X2_mendersNow : GoodIn wsX3_lost (wsV RX3 136 RX2 yX2_mendersNow wsX2_mendersNow) := goodIn_app (goodIn_of _ (by decide +kernel)) ggX3_lost_X2_mendersNow
theorem dX3_lost_0 : decode cX3_lost 0 = .ok (.iconst 0, 1) := by decide +kernel
theorem dX3_lost_1 : decode cX3_lost 1 = .ok (.istore_n 1, 1) := by decide +kernel
theorem dX3_lost_2 : decode cX3_lost 2 = .ok (.iconst 0, 1) := by decide +kernel
theorem dX3_lost_3 : decode cX3_lost 3 = .ok (.istore_n 2, 1) := by decide +kernel
theorem dX3_lost_4 : decode cX3_lost 4 = .ok (.iload_n 2, 1) := by decide +kernel
theorem dX3_lost_5 : decode cX3_lost 5 = .ok (.aload_n 0, 1) := by decide +kernel
theorem dX3_lost_6 : decode cX3_lost 6 = .ok (.getfield 10, 3) := by decide +kernel
theorem dX3_lost_9 : decode cX3_lost 9 = .ok (.getfield 171, 3) := by decide +kernel
theorem dX3_lost_12 : decode cX3_lost 12 = .ok (.if_icmp .ge 37, 3) := by decide +kernel
theorem dX3_lost_15 : decode cX3_lost 15 = .ok (.aload_n 0, 1) := by decide +kernel
theorem dX3_lost_16 : decode cX3_lost 16 = .ok (.getfield 10, 3) := by decide +kernel
theorem dX3_lost_19 : decode cX3_lost 19 = .ok (.iload_n 2, 1) := by decide +kernel
theorem dX3_lost_20 : decode cX3_lost 20 = .ok (.invokevirtual 127, 3) := by decide +kernel
theorem dX3_lost_23 : decode cX3_lost 23 = .ok (.ifCond .ne 20, 3) := by decide +kernel
theorem dX3_lost_26 : decode cX3_lost 26 = .ok (.aload_n 0, 1) := by decide +kernel
theorem dX3_lost_27 : decode cX3_lost 27 = .ok (.getfield 10, 3) := by decide +kernel
theorem dX3_lost_30 : decode cX3_lost 30 = .ok (.iload_n 2, 1) := by decide +kernel
theorem dX3_lost_31 : decode cX3_lost 31 = .ok (.invokevirtual 136, 3) := by decide +kernel
theorem dX3_lost_34 : decode cX3_lost 34 = .ok (.ifCond .ne 9, 3) := by decide +kernel
theorem dX3_lost_37 : decode cX3_lost 37 = .ok (.iload_n 1, 1) := by decide +kernel
theorem dX3_lost_38 : decode cX3_lost 38 = .ok (.iconst 1, 1) := by decide +kernel
theorem dX3_lost_39 : decode cX3_lost 39 = .ok (.iload_n 2, 1) := by decide +kernel
theorem dX3_lost_40 : decode cX3_lost 40 = .ok (.ishl, 1) := by decide +kernel
theorem dX3_lost_41 : decode cX3_lost 41 = .ok (.ior, 1) := by decide +kernel
theorem dX3_lost_42 : decode cX3_lost 42 = .ok (.istore_n 1, 1) := by decide +kernel
theorem dX3_lost_43 : decode cX3_lost 43 = .ok (.iinc 2 1, 3) := by decide +kernel
theorem dX3_lost_46 : decode cX3_lost 46 = .ok (.goto (-42), 3) := by decide +kernel
theorem dX3_lost_49 : decode cX3_lost 49 = .ok (.iload_n 1, 1) := by decide +kernel
theorem dX3_lost_50 : decode cX3_lost 50 = .ok (.ireturn, 1) := by decide +kernel
set_option maxRecDepth 20000 in
theorem ggX3_breaker_X2_isThing : GoodIn wsX3_breaker wsX2_isThing := goodIn_r _ [9, 10, 98, 99, 100, 101, 102, 103, 104, 105, 106, 107] (by decide +kernel) (by decide +kernel)
set_option maxRecDepth 20000 in
theorem gX3_breaker_X2_isThing : GoodIn wsX3_breaker (wsV RX3 99 RX2 yX2_isThing wsX2_isThing) := goodIn_app (goodIn_of _ (by decide +kernel)) ggX3_breaker_X2_isThing
set_option maxRecDepth 20000 in
theorem ggX3_breaker_X3_refuse : GoodIn wsX3_breaker wsX3_refuse := goodIn_r _ [15, 16, 87, 88, 89, 90, 91, 92, 93, 94, 95, 96, 97] (by decide +kernel) (by decide +kernel)
set_option maxRecDepth 20000 in
theorem gX3_breaker_X3_refuse : GoodIn wsX3_breaker (wsV RX3 57 RX3 yX3_refuse wsX3_refuse) := goodIn_app (goodIn_of _ (by decide +kernel)) ggX3_breaker_X3_refuse
set_option maxRecDepth 20000 in
theorem ggX3_breaker_X2_isWhole : GoodIn wsX3_breaker wsX2_isWhole := goodIn_r _ [20, 21, 98, 99, 100, 101, 102, 103, 104, 105, 106, 107] (by decide +kernel) (by decide +kernel)
set_option maxRecDepth 20000 in
theorem gX3_breaker_X2_isWhole : GoodIn wsX3_breaker (wsV RX3 127 RX2 yX2_isWhole wsX2_isWhole) := goodIn_app (goodIn_of _ (by decide +kernel)) ggX3_breaker_X2_isWhole
set_option maxRecDepth 20000 in
theorem ggX3_breaker_X2_become : GoodIn wsX3_breaker wsX2_become := goodIn_r _ [25, 26, 27, 28, 29, 30, 31, 32, 33, 34, 35, 21, 36, 10, 37, 98, 99, 100, 101, 102, 103, 104, 105, 106, 107] (by decide +kernel) (by decide +kernel)
set_option maxRecDepth 20000 in
theorem gX3_breaker_X2_become : GoodIn wsX3_breaker (wsV RX3 68 RX2 yX2_become wsX2_become) := goodIn_app (goodIn_of _ (by decide +kernel)) ggX3_breaker_X2_become
set_option maxRecDepth 20000 in
theorem ggX3_breaker_X3_daysUntil : GoodIn wsX3_breaker wsX3_daysUntil := goodIn_r _ [41, 3, 17, 18, 19, 8, 20, 21, 42, 43, 44, 45, 37, 36, 46, 47, 48, 49, 10, 50, 51, 52, 53, 54, 32, 33, 55, 56, 57, 58, 35, 59, 60, 61, 62, 63, 64, 65, 66, 67, 68, 69, 70, 26, 71, 72, 73, 74, 75, 76, 77, 78, 34, 79, 80, 81, 82, 83, 84, 85, 86, 31, 87, 88, 89, 90, 91, 92, 93, 94, 95, 96, 97, 98, 99, 100, 101, 102, 103, 104, 105, 106, 107] (by decide +kernel) (by decide +kernel)
set_option maxRecDepth 20000 in
theorem gX3_breaker_X3_daysUntil : GoodIn wsX3_breaker (wsV RX3 161 RX3 yX3_daysUntil wsX3_daysUntil) := goodIn_app (goodIn_of _ (by decide +kernel)) ggX3_breaker_X3_daysUntil
theorem dX3_breaker_0 : decode cX3_breaker 0 = .ok (.aload_n 0, 1) := by decide +kernel
theorem dX3_breaker_1 : decode cX3_breaker 1 = .ok (.getfield 10, 3) := by decide +kernel
theorem dX3_breaker_4 : decode cX3_breaker 4 = .ok (.iload_n 1, 1) := by decide +kernel
theorem dX3_breaker_5 : decode cX3_breaker 5 = .ok (.invokevirtual 99, 3) := by decide +kernel
theorem dX3_breaker_8 : decode cX3_breaker 8 = .ok (.ifCond .ne 9, 3) := by decide +kernel
theorem dX3_breaker_11 : decode cX3_breaker 11 = .ok (.aload_n 0, 1) := by decide +kernel
theorem dX3_breaker_12 : decode cX3_breaker 12 = .ok (.iconst (-1), 1) := by decide +kernel
theorem dX3_breaker_13 : decode cX3_breaker 13 = .ok (.invokevirtual 57, 3) := by decide +kernel
theorem dX3_breaker_16 : decode cX3_breaker 16 = .ok (.ireturn, 1) := by decide +kernel
theorem dX3_breaker_17 : decode cX3_breaker 17 = .ok (.aload_n 0, 1) := by decide +kernel
theorem dX3_breaker_18 : decode cX3_breaker 18 = .ok (.getfield 10, 3) := by decide +kernel
theorem dX3_breaker_21 : decode cX3_breaker 21 = .ok (.iload_n 1, 1) := by decide +kernel
theorem dX3_breaker_22 : decode cX3_breaker 22 = .ok (.invokevirtual 127, 3) := by decide +kernel
theorem dX3_breaker_25 : decode cX3_breaker 25 = .ok (.ifCond .ne 10, 3) := by decide +kernel
theorem dX3_breaker_28 : decode cX3_breaker 28 = .ok (.aload_n 0, 1) := by decide +kernel
theorem dX3_breaker_29 : decode cX3_breaker 29 = .ok (.bipush (-3), 2) := by decide +kernel
theorem dX3_breaker_31 : decode cX3_breaker 31 = .ok (.invokevirtual 57, 3) := by decide +kernel
theorem dX3_breaker_34 : decode cX3_breaker 34 = .ok (.ireturn, 1) := by decide +kernel
theorem dX3_breaker_35 : decode cX3_breaker 35 = .ok (.bipush (-9), 2) := by decide +kernel
theorem dX3_breaker_37 : decode cX3_breaker 37 = .ok (.istore_n 2, 1) := by decide +kernel
theorem dX3_breaker_38 : decode cX3_breaker 38 = .ok (.bipush 100, 2) := by decide +kernel
theorem dX3_breaker_40 : decode cX3_breaker 40 = .ok (.istore_n 3, 1) := by decide +kernel
theorem dX3_breaker_41 : decode cX3_breaker 41 = .ok (.iconst 0, 1) := by decide +kernel
theorem dX3_breaker_42 : decode cX3_breaker 42 = .ok (.istore 4, 2) := by decide +kernel
theorem dX3_breaker_44 : decode cX3_breaker 44 = .ok (.iload 4, 2) := by decide +kernel
theorem dX3_breaker_46 : decode cX3_breaker 46 = .ok (.aload_n 0, 1) := by decide +kernel
theorem dX3_breaker_47 : decode cX3_breaker 47 = .ok (.getfield 10, 3) := by decide +kernel
theorem dX3_breaker_50 : decode cX3_breaker 50 = .ok (.getfield 190, 3) := by decide +kernel
theorem dX3_breaker_53 : decode cX3_breaker 53 = .ok (.if_icmp .ge 58, 3) := by decide +kernel
theorem dX3_breaker_56 : decode cX3_breaker 56 = .ok (.aload_n 0, 1) := by decide +kernel
theorem dX3_breaker_57 : decode cX3_breaker 57 = .ok (.getfield 16, 3) := by decide +kernel
theorem dX3_breaker_60 : decode cX3_breaker 60 = .ok (.aload_n 0, 1) := by decide +kernel
theorem dX3_breaker_61 : decode cX3_breaker 61 = .ok (.getfield 10, 3) := by decide +kernel
theorem dX3_breaker_64 : decode cX3_breaker 64 = .ok (.invokevirtual 68, 3) := by decide +kernel
theorem dX3_breaker_67 : decode cX3_breaker 67 = .ok (.aload_n 0, 1) := by decide +kernel
theorem dX3_breaker_68 : decode cX3_breaker 68 = .ok (.getfield 16, 3) := by decide +kernel
theorem dX3_breaker_71 : decode cX3_breaker 71 = .ok (.getfield 114, 3) := by decide +kernel
theorem dX3_breaker_74 : decode cX3_breaker 74 = .ok (.iload_n 1, 1) := by decide +kernel
theorem dX3_breaker_75 : decode cX3_breaker 75 = .ok (.iload 4, 2) := by decide +kernel
theorem dX3_breaker_77 : decode cX3_breaker 77 = .ok (.iastore, 1) := by decide +kernel
theorem dX3_breaker_78 : decode cX3_breaker 78 = .ok (.aload_n 0, 1) := by decide +kernel
theorem dX3_breaker_79 : decode cX3_breaker 79 = .ok (.iload_n 1, 1) := by decide +kernel
theorem dX3_breaker_80 : decode cX3_breaker 80 = .ok (.iconst 1, 1) := by decide +kernel
theorem dX3_breaker_81 : decode cX3_breaker 81 = .ok (.invokevirtual 161, 3) := by decide +kernel
theorem dX3_breaker_84 : decode cX3_breaker 84 = .ok (.istore 5, 2) := by decide +kernel
theorem dX3_breaker_86 : decode cX3_breaker 86 = .ok (.iload 5, 2) := by decide +kernel
theorem dX3_breaker_88 : decode cX3_breaker 88 = .ok (.bipush (-9), 2) := by decide +kernel
theorem dX3_breaker_90 : decode cX3_breaker 90 = .ok (.if_icmp .eq 15, 3) := by decide +kernel
theorem dX3_breaker_93 : decode cX3_breaker 93 = .ok (.iload 5, 2) := by decide +kernel
theorem dX3_breaker_95 : decode cX3_breaker 95 = .ok (.iload_n 3, 1) := by decide +kernel
theorem dX3_breaker_96 : decode cX3_breaker 96 = .ok (.if_icmp .ge 9, 3) := by decide +kernel
theorem dX3_breaker_99 : decode cX3_breaker 99 = .ok (.iload 5, 2) := by decide +kernel
theorem dX3_breaker_101 : decode cX3_breaker 101 = .ok (.istore_n 3, 1) := by decide +kernel
theorem dX3_breaker_102 : decode cX3_breaker 102 = .ok (.iload 4, 2) := by decide +kernel
theorem dX3_breaker_104 : decode cX3_breaker 104 = .ok (.istore_n 2, 1) := by decide +kernel
theorem dX3_breaker_105 : decode cX3_breaker 105 = .ok (.iinc 4 1, 3) := by decide +kernel
theorem dX3_breaker_108 : decode cX3_breaker 108 = .ok (.goto (-64), 3) := by decide +kernel
theorem dX3_breaker_111 : decode cX3_breaker 111 = .ok (.iload_n 2, 1) := by decide +kernel
theorem dX3_breaker_112 : decode cX3_breaker 112 = .ok (.ireturn, 1) := by decide +kernel
set_option maxRecDepth 20000 in
theorem ggX3_bestSays_X3_outside : GoodIn wsX3_bestSays wsX3_outside := goodIn_r _ [9] (by decide +kernel) (by decide +kernel)
set_option maxRecDepth 20000 in
theorem gX3_bestSays_X3_outside : GoodIn wsX3_bestSays (va_wsS RX3 147 yX3_outside wsX3_outside) := goodIn_app (goodIn_of _ (by decide +kernel)) ggX3_bestSays_X3_outside
set_option maxRecDepth 20000 in
theorem ggX3_bestSays_X3_refuse : GoodIn wsX3_bestSays wsX3_refuse := goodIn_r _ [13, 14, 105, 106, 107, 108, 109, 110, 111, 112, 113, 114, 115] (by decide +kernel) (by decide +kernel)
set_option maxRecDepth 20000 in
theorem gX3_bestSays_X3_refuse : GoodIn wsX3_bestSays (wsV RX3 57 RX3 yX3_refuse wsX3_refuse) := goodIn_app (goodIn_of _ (by decide +kernel)) ggX3_bestSays_X3_refuse
set_option maxRecDepth 20000 in
theorem ggX3_bestSays_X3_wholeBehind : GoodIn wsX3_bestSays wsX3_wholeBehind := goodIn_r _ [18, 4, 1, 19, 20, 21, 22, 23, 24, 25, 26, 27, 28, 29, 30, 31, 32, 33, 34, 35, 36, 37, 38, 39, 40, 41, 42, 43, 44, 45, 46, 47, 48, 49, 50, 51, 52, 53, 54, 55, 56, 57, 58, 59, 60, 61, 62, 63, 64, 65, 66, 67, 68, 69, 70, 71, 72, 73, 74, 75, 76, 77, 78, 79, 80, 81, 82, 83, 84, 85, 86, 87, 88, 89, 90, 91, 92, 93, 94, 95, 96, 97, 98, 99, 100, 105, 106, 107, 108, 109, 110, 111, 112, 113, 114, 115, 116, 117, 118, 119, 120, 121, 122, 123, 124, 125] (by decide +kernel) (by decide +kernel)
set_option maxRecDepth 20000 in
theorem gX3_bestSays_X3_wholeBehind : GoodIn wsX3_bestSays (wsV RX3 193 RX3 yX3_wholeBehind wsX3_wholeBehind) := goodIn_app (goodIn_of _ (by decide +kernel)) ggX3_bestSays_X3_wholeBehind
set_option maxRecDepth 20000 in
theorem ggX3_bestSays_X2_isMourned : GoodIn wsX3_bestSays wsX2_isMourned := goodIn_r _ [104, 34, 116, 117, 118, 119, 120, 121, 122, 123, 124, 125] (by decide +kernel) (by decide +kernel)
set_option maxRecDepth 20000 in
theorem gX3_bestSays_X2_isMourned : GoodIn wsX3_bestSays (wsV RX3 133 RX2 yX2_isMourned wsX2_isMourned) := goodIn_app (goodIn_of _ (by decide +kernel)) ggX3_bestSays_X2_isMourned
set_option maxRecDepth 20000 in
theorem ggX3_bestSays_X2_become : GoodIn wsX3_bestSays wsX2_become := goodIn_r _ [23, 24, 25, 26, 27, 28, 29, 30, 31, 32, 33, 34, 35, 36, 37, 116, 117, 118, 119, 120, 121, 122, 123, 124, 125] (by decide +kernel) (by decide +kernel)
set_option maxRecDepth 20000 in
theorem gX3_bestSays_X2_become : GoodIn wsX3_bestSays (wsV RX3 68 RX2 yX2_become wsX2_become) := goodIn_app (goodIn_of _ (by decide +kernel)) ggX3_bestSays_X2_become
set_option maxRecDepth 20000 in
theorem ggX3_bestSays_X2_pass : GoodIn wsX3_bestSays wsX2_pass := goodIn_r _ [41, 37, 35, 42, 43, 44, 22, 45, 36, 46, 47, 48, 49, 34, 50, 51, 52, 53, 30, 31, 54, 55, 56, 57, 33, 58, 59, 60, 61, 62, 63, 64, 65, 66, 67, 68, 69, 24, 70, 71, 72, 73, 74, 75, 76, 77, 32, 78, 79, 80, 81, 82, 83, 84, 85, 29, 116, 117, 118, 119, 120, 121, 122, 123, 124, 125] (by decide +kernel) (by decide +kernel)
set_option maxRecDepth 20000 in
theorem gX3_bestSays_X2_pass : GoodIn wsX3_bestSays (wsV RX3 151 RX2 yX2_pass wsX2_pass) := goodIn_app (goodIn_of _ (by decide +kernel)) ggX3_bestSays_X2_pass
set_option maxRecDepth 20000 in
theorem ggX3_bestSays_X2_wholeCount : GoodIn wsX3_bestSays wsX2_wholeCount := goodIn_r _ [89, 90, 91, 92, 22, 93, 36, 46, 47, 48, 49, 34, 94, 95, 96, 97, 98, 99, 100, 116, 117, 118, 119, 120, 121, 122, 123, 124, 125] (by decide +kernel) (by decide +kernel)
set_option maxRecDepth 20000 in
theorem gX3_bestSays_X2_wholeCount : GoodIn wsX3_bestSays (wsV RX3 130 RX2 yX2_wholeCount wsX2_wholeCount) := goodIn_app (goodIn_of _ (by decide +kernel)) ggX3_bestSays_X2_wholeCount
theorem dX3_bestSays_0 : decode cX3_bestSays 0 = .ok (.iload_n 1, 1) := by decide +kernel
theorem dX3_bestSays_1 : decode cX3_bestSays 1 = .ok (.iconst 0, 1) := by decide +kernel
theorem dX3_bestSays_2 : decode cX3_bestSays 2 = .ok (.bipush 99, 2) := by decide +kernel
theorem dX3_bestSays_4 : decode cX3_bestSays 4 = .ok (.invokestatic 147, 3) := by decide +kernel
theorem dX3_bestSays_7 : decode cX3_bestSays 7 = .ok (.istore_n 2, 1) := by decide +kernel
theorem dX3_bestSays_8 : decode cX3_bestSays 8 = .ok (.iload_n 2, 1) := by decide +kernel
theorem dX3_bestSays_9 : decode cX3_bestSays 9 = .ok (.ifCond .eq 9, 3) := by decide +kernel
theorem dX3_bestSays_12 : decode cX3_bestSays 12 = .ok (.aload_n 0, 1) := by decide +kernel
theorem dX3_bestSays_13 : decode cX3_bestSays 13 = .ok (.iload_n 2, 1) := by decide +kernel
theorem dX3_bestSays_14 : decode cX3_bestSays 14 = .ok (.invokevirtual 57, 3) := by decide +kernel
theorem dX3_bestSays_17 : decode cX3_bestSays 17 = .ok (.ireturn, 1) := by decide +kernel
theorem dX3_bestSays_18 : decode cX3_bestSays 18 = .ok (.bipush (-9), 2) := by decide +kernel
theorem dX3_bestSays_20 : decode cX3_bestSays 20 = .ok (.istore_n 3, 1) := by decide +kernel
theorem dX3_bestSays_21 : decode cX3_bestSays 21 = .ok (.aload_n 0, 1) := by decide +kernel
theorem dX3_bestSays_22 : decode cX3_bestSays 22 = .ok (.iload_n 1, 1) := by decide +kernel
theorem dX3_bestSays_23 : decode cX3_bestSays 23 = .ok (.invokevirtual 193, 3) := by decide +kernel
theorem dX3_bestSays_26 : decode cX3_bestSays 26 = .ok (.istore 4, 2) := by decide +kernel
theorem dX3_bestSays_28 : decode cX3_bestSays 28 = .ok (.iconst 0, 1) := by decide +kernel
theorem dX3_bestSays_29 : decode cX3_bestSays 29 = .ok (.istore 5, 2) := by decide +kernel
theorem dX3_bestSays_31 : decode cX3_bestSays 31 = .ok (.iload 5, 2) := by decide +kernel
theorem dX3_bestSays_33 : decode cX3_bestSays 33 = .ok (.aload_n 0, 1) := by decide +kernel
theorem dX3_bestSays_34 : decode cX3_bestSays 34 = .ok (.getfield 10, 3) := by decide +kernel
theorem dX3_bestSays_37 : decode cX3_bestSays 37 = .ok (.getfield 171, 3) := by decide +kernel
theorem dX3_bestSays_40 : decode cX3_bestSays 40 = .ok (.if_icmp .ge 106, 3) := by decide +kernel
theorem dX3_bestSays_43 : decode cX3_bestSays 43 = .ok (.iconst 0, 1) := by decide +kernel
theorem dX3_bestSays_44 : decode cX3_bestSays 44 = .ok (.istore 6, 2) := by decide +kernel
theorem dX3_bestSays_46 : decode cX3_bestSays 46 = .ok (.iload 6, 2) := by decide +kernel
theorem dX3_bestSays_48 : decode cX3_bestSays 48 = .ok (.aload_n 0, 1) := by decide +kernel
theorem dX3_bestSays_49 : decode cX3_bestSays 49 = .ok (.getfield 10, 3) := by decide +kernel
theorem dX3_bestSays_52 : decode cX3_bestSays 52 = .ok (.getfield 190, 3) := by decide +kernel
theorem dX3_bestSays_55 : decode cX3_bestSays 55 = .ok (.if_icmp .ge 85, 3) := by decide +kernel
theorem dX3_bestSays_58 : decode cX3_bestSays 58 = .ok (.aload_n 0, 1) := by decide +kernel
theorem dX3_bestSays_59 : decode cX3_bestSays 59 = .ok (.getfield 10, 3) := by decide +kernel
theorem dX3_bestSays_62 : decode cX3_bestSays 62 = .ok (.iload 5, 2) := by decide +kernel
theorem dX3_bestSays_64 : decode cX3_bestSays 64 = .ok (.invokevirtual 133, 3) := by decide +kernel
theorem dX3_bestSays_67 : decode cX3_bestSays 67 = .ok (.ifCond .eq 73, 3) := by decide +kernel
theorem dX3_bestSays_70 : decode cX3_bestSays 70 = .ok (.aload_n 0, 1) := by decide +kernel
theorem dX3_bestSays_71 : decode cX3_bestSays 71 = .ok (.getfield 16, 3) := by decide +kernel
theorem dX3_bestSays_74 : decode cX3_bestSays 74 = .ok (.aload_n 0, 1) := by decide +kernel
theorem dX3_bestSays_75 : decode cX3_bestSays 75 = .ok (.getfield 10, 3) := by decide +kernel
theorem dX3_bestSays_78 : decode cX3_bestSays 78 = .ok (.invokevirtual 68, 3) := by decide +kernel
theorem dX3_bestSays_81 : decode cX3_bestSays 81 = .ok (.aload_n 0, 1) := by decide +kernel
theorem dX3_bestSays_82 : decode cX3_bestSays 82 = .ok (.getfield 16, 3) := by decide +kernel
theorem dX3_bestSays_85 : decode cX3_bestSays 85 = .ok (.getfield 114, 3) := by decide +kernel
theorem dX3_bestSays_88 : decode cX3_bestSays 88 = .ok (.iload 5, 2) := by decide +kernel
theorem dX3_bestSays_90 : decode cX3_bestSays 90 = .ok (.iload 6, 2) := by decide +kernel
theorem dX3_bestSays_92 : decode cX3_bestSays 92 = .ok (.iastore, 1) := by decide +kernel
theorem dX3_bestSays_93 : decode cX3_bestSays 93 = .ok (.aload_n 0, 1) := by decide +kernel
theorem dX3_bestSays_94 : decode cX3_bestSays 94 = .ok (.getfield 16, 3) := by decide +kernel
theorem dX3_bestSays_97 : decode cX3_bestSays 97 = .ok (.iload_n 1, 1) := by decide +kernel
theorem dX3_bestSays_98 : decode cX3_bestSays 98 = .ok (.iconst 1, 1) := by decide +kernel
theorem dX3_bestSays_99 : decode cX3_bestSays 99 = .ok (.bipush (-9), 2) := by decide +kernel
theorem dX3_bestSays_101 : decode cX3_bestSays 101 = .ok (.invokevirtual 151, 3) := by decide +kernel
theorem dX3_bestSays_104 : decode cX3_bestSays 104 = .ok (.aload_n 0, 1) := by decide +kernel
theorem dX3_bestSays_105 : decode cX3_bestSays 105 = .ok (.getfield 16, 3) := by decide +kernel
theorem dX3_bestSays_108 : decode cX3_bestSays 108 = .ok (.invokevirtual 130, 3) := by decide +kernel
theorem dX3_bestSays_111 : decode cX3_bestSays 111 = .ok (.iload 4, 2) := by decide +kernel
theorem dX3_bestSays_113 : decode cX3_bestSays 113 = .ok (.if_icmp .le 21, 3) := by decide +kernel
theorem dX3_bestSays_116 : decode cX3_bestSays 116 = .ok (.aload_n 0, 1) := by decide +kernel
theorem dX3_bestSays_117 : decode cX3_bestSays 117 = .ok (.getfield 16, 3) := by decide +kernel
theorem dX3_bestSays_120 : decode cX3_bestSays 120 = .ok (.invokevirtual 130, 3) := by decide +kernel
theorem dX3_bestSays_123 : decode cX3_bestSays 123 = .ok (.istore 4, 2) := by decide +kernel
theorem dX3_bestSays_125 : decode cX3_bestSays 125 = .ok (.bipush 10, 2) := by decide +kernel
theorem dX3_bestSays_127 : decode cX3_bestSays 127 = .ok (.iload 5, 2) := by decide +kernel
theorem dX3_bestSays_129 : decode cX3_bestSays 129 = .ok (.imul, 1) := by decide +kernel
theorem dX3_bestSays_130 : decode cX3_bestSays 130 = .ok (.iload 6, 2) := by decide +kernel
theorem dX3_bestSays_132 : decode cX3_bestSays 132 = .ok (.iadd, 1) := by decide +kernel
theorem dX3_bestSays_133 : decode cX3_bestSays 133 = .ok (.istore_n 3, 1) := by decide +kernel
theorem dX3_bestSays_134 : decode cX3_bestSays 134 = .ok (.iinc 6 1, 3) := by decide +kernel
theorem dX3_bestSays_137 : decode cX3_bestSays 137 = .ok (.goto (-91), 3) := by decide +kernel
theorem dX3_bestSays_140 : decode cX3_bestSays 140 = .ok (.iinc 5 1, 3) := by decide +kernel
theorem dX3_bestSays_143 : decode cX3_bestSays 143 = .ok (.goto (-112), 3) := by decide +kernel
theorem dX3_bestSays_146 : decode cX3_bestSays 146 = .ok (.iload_n 3, 1) := by decide +kernel
theorem dX3_bestSays_147 : decode cX3_bestSays 147 = .ok (.ireturn, 1) := by decide +kernel
set_option maxRecDepth 20000 in
theorem ggX3_wholeBehind_X2_become : GoodIn wsX3_wholeBehind wsX2_become := goodIn_r _ [7, 8, 9, 10, 11, 12, 13, 14, 15, 16, 17, 18, 19, 20, 21, 96, 97, 98, 99, 100, 101, 102, 103, 104, 105] (by decide +kernel) (by decide +kernel)
set_option maxRecDepth 20000 in
theorem gX3_wholeBehind_X2_become : GoodIn wsX3_wholeBehind (wsV RX3 68 RX2 yX2_become wsX2_become) := goodIn_app (goodIn_of _ (by decide +kernel)) ggX3_wholeBehind_X2_become
set_option maxRecDepth 20000 in
theorem ggX3_wholeBehind_X2_pass : GoodIn wsX3_wholeBehind wsX2_pass := goodIn_r _ [25, 21, 19, 26, 27, 28, 6, 29, 20, 30, 31, 32, 33, 18, 34, 35, 36, 37, 14, 15, 38, 39, 40, 41, 17, 42, 43, 44, 45, 46, 47, 48, 49, 50, 51, 52, 53, 8, 54, 55, 56, 57, 58, 59, 60, 61, 16, 62, 63, 64, 65, 66, 67, 68, 69, 13, 96, 97, 98, 99, 100, 101, 102, 103, 104, 105] (by decide +kernel) (by decide +kernel)
set_option maxRecDepth 20000 in
theorem gX3_wholeBehind_X2_pass : GoodIn wsX3_wholeBehind (wsV RX3 151 RX2 yX2_pass wsX2_pass) := goodIn_app (goodIn_of _ (by decide +kernel)) ggX3_wholeBehind_X2_pass
set_option maxRecDepth 20000 in
theorem ggX3_wholeBehind_X2_wholeCount : GoodIn wsX3_wholeBehind wsX2_wholeCount := goodIn_r _ [73, 74, 75, 76, 6, 77, 20, 30, 31, 32, 33, 18, 78, 79, 80, 81, 82, 83, 84, 96, 97, 98, 99, 100, 101, 102, 103, 104, 105] (by decide +kernel) (by decide +kernel)
set_option maxRecDepth 20000 in
theorem gX3_wholeBehind_X2_wholeCount : GoodIn wsX3_wholeBehind (wsV RX3 130 RX2 yX2_wholeCount wsX2_wholeCount) := goodIn_app (goodIn_of _ (by decide +kernel)) ggX3_wholeBehind_X2_wholeCount
theorem dX3_wholeBehind_0 : decode cX3_wholeBehind 0 = .ok (.aload_n 0, 1) := by decide +kernel
theorem dX3_wholeBehind_1 : decode cX3_wholeBehind 1 = .ok (.getfield 16, 3) := by decide +kernel
theorem dX3_wholeBehind_4 : decode cX3_wholeBehind 4 = .ok (.aload_n 0, 1) := by decide +kernel
theorem dX3_wholeBehind_5 : decode cX3_wholeBehind 5 = .ok (.getfield 10, 3) := by decide +kernel
theorem dX3_wholeBehind_8 : decode cX3_wholeBehind 8 = .ok (.invokevirtual 68, 3) := by decide +kernel
theorem dX3_wholeBehind_11 : decode cX3_wholeBehind 11 = .ok (.aload_n 0, 1) := by decide +kernel
theorem dX3_wholeBehind_12 : decode cX3_wholeBehind 12 = .ok (.getfield 16, 3) := by decide +kernel
theorem dX3_wholeBehind_15 : decode cX3_wholeBehind 15 = .ok (.iload_n 1, 1) := by decide +kernel
theorem dX3_wholeBehind_16 : decode cX3_wholeBehind 16 = .ok (.iconst 1, 1) := by decide +kernel
theorem dX3_wholeBehind_17 : decode cX3_wholeBehind 17 = .ok (.bipush (-9), 2) := by decide +kernel
theorem dX3_wholeBehind_19 : decode cX3_wholeBehind 19 = .ok (.invokevirtual 151, 3) := by decide +kernel
theorem dX3_wholeBehind_22 : decode cX3_wholeBehind 22 = .ok (.aload_n 0, 1) := by decide +kernel
theorem dX3_wholeBehind_23 : decode cX3_wholeBehind 23 = .ok (.getfield 16, 3) := by decide +kernel
theorem dX3_wholeBehind_26 : decode cX3_wholeBehind 26 = .ok (.invokevirtual 130, 3) := by decide +kernel
theorem dX3_wholeBehind_29 : decode cX3_wholeBehind 29 = .ok (.ireturn, 1) := by decide +kernel
set_option maxRecDepth 20000 in
theorem ggX3_confessions_J6_bitCount_0f7a4 : GoodIn wsX3_confessions wsJ6_bitCount_0f7a4 := goodIn_r _ [6, 7, 8, 9] (by decide +kernel) (by decide +kernel)
set_option maxRecDepth 20000 in
theorem gX3_confessions_J6_bitCount_0f7a4 : GoodIn wsX3_confessions (va_wsS RX3 196 yJ6_bitCount_0f7a4 wsJ6_bitCount_0f7a4) := goodIn_app (goodIn_of _ (by decide +kernel)) ggX3_confessions_J6_bitCount_0f7a4
set_option maxRecDepth 20000 in
theorem ggX3_confessions_X3_leaveNothing : GoodIn wsX3_confessions wsX3_leaveNothing := goodIn_r _ [14, 1, 15, 16, 17, 18, 19, 20, 21, 22, 23, 24, 13, 25, 2, 26, 27, 28, 29, 30, 31, 32, 33, 34, 35, 36, 37, 38, 39, 40, 41, 42, 43, 44, 45, 46, 47, 48, 49, 50, 51, 52, 53, 54, 55, 56, 57, 58, 59, 60, 61, 62, 63, 64, 65, 66, 67] (by decide +kernel) (by decide +kernel)
set_option maxRecDepth 20000 in
theorem gX3_confessions_X3_leaveNothing : GoodIn wsX3_confessions (wsV RX3 201 RX3 yX3_leaveNothing wsX3_leaveNothing) := goodIn_app (goodIn_of _ (by decide +kernel)) ggX3_confessions_X3_leaveNothing
theorem dX3_confessions_0 : decode cX3_confessions 0 = .ok (.bipush (-9), 2) := by decide +kernel
theorem dX3_confessions_2 : decode cX3_confessions 2 = .ok (.istore_n 1, 1) := by decide +kernel
theorem dX3_confessions_3 : decode cX3_confessions 3 = .ok (.bipush 7, 2) := by decide +kernel
theorem dX3_confessions_5 : decode cX3_confessions 5 = .ok (.istore_n 2, 1) := by decide +kernel
theorem dX3_confessions_6 : decode cX3_confessions 6 = .ok (.iconst 0, 1) := by decide +kernel
theorem dX3_confessions_7 : decode cX3_confessions 7 = .ok (.istore_n 3, 1) := by decide +kernel
theorem dX3_confessions_8 : decode cX3_confessions 8 = .ok (.iload_n 3, 1) := by decide +kernel
theorem dX3_confessions_9 : decode cX3_confessions 9 = .ok (.iconst 1, 1) := by decide +kernel
theorem dX3_confessions_10 : decode cX3_confessions 10 = .ok (.aload_n 0, 1) := by decide +kernel
theorem dX3_confessions_11 : decode cX3_confessions 11 = .ok (.getfield 10, 3) := by decide +kernel
theorem dX3_confessions_14 : decode cX3_confessions 14 = .ok (.getfield 190, 3) := by decide +kernel
theorem dX3_confessions_17 : decode cX3_confessions 17 = .ok (.ishl, 1) := by decide +kernel
theorem dX3_confessions_18 : decode cX3_confessions 18 = .ok (.if_icmp .ge 34, 3) := by decide +kernel
theorem dX3_confessions_21 : decode cX3_confessions 21 = .ok (.iload_n 3, 1) := by decide +kernel
theorem dX3_confessions_22 : decode cX3_confessions 22 = .ok (.invokestatic 196, 3) := by decide +kernel
theorem dX3_confessions_25 : decode cX3_confessions 25 = .ok (.istore 4, 2) := by decide +kernel
theorem dX3_confessions_27 : decode cX3_confessions 27 = .ok (.iload 4, 2) := by decide +kernel
theorem dX3_confessions_29 : decode cX3_confessions 29 = .ok (.iload_n 2, 1) := by decide +kernel
theorem dX3_confessions_30 : decode cX3_confessions 30 = .ok (.if_icmp .ge 16, 3) := by decide +kernel
theorem dX3_confessions_33 : decode cX3_confessions 33 = .ok (.aload_n 0, 1) := by decide +kernel
theorem dX3_confessions_34 : decode cX3_confessions 34 = .ok (.iload_n 3, 1) := by decide +kernel
theorem dX3_confessions_35 : decode cX3_confessions 35 = .ok (.invokevirtual 201, 3) := by decide +kernel
theorem dX3_confessions_38 : decode cX3_confessions 38 = .ok (.ifCond .eq 8, 3) := by decide +kernel
theorem dX3_confessions_41 : decode cX3_confessions 41 = .ok (.iload 4, 2) := by decide +kernel
theorem dX3_confessions_43 : decode cX3_confessions 43 = .ok (.istore_n 2, 1) := by decide +kernel
theorem dX3_confessions_44 : decode cX3_confessions 44 = .ok (.iload_n 3, 1) := by decide +kernel
theorem dX3_confessions_45 : decode cX3_confessions 45 = .ok (.istore_n 1, 1) := by decide +kernel
theorem dX3_confessions_46 : decode cX3_confessions 46 = .ok (.iinc 3 1, 3) := by decide +kernel
theorem dX3_confessions_49 : decode cX3_confessions 49 = .ok (.goto (-41), 3) := by decide +kernel
theorem dX3_confessions_52 : decode cX3_confessions 52 = .ok (.iload_n 1, 1) := by decide +kernel
theorem dX3_confessions_53 : decode cX3_confessions 53 = .ok (.ireturn, 1) := by decide +kernel
set_option maxRecDepth 20000 in
theorem ggX3_leaveNothing_X2_isMourned : GoodIn wsX3_leaveNothing wsX2_isMourned := goodIn_r _ [7, 8, 47, 48, 49, 50, 51, 52, 53, 54, 55, 56] (by decide +kernel) (by decide +kernel)
set_option maxRecDepth 20000 in
theorem gX3_leaveNothing_X2_isMourned : GoodIn wsX3_leaveNothing (wsV RX3 133 RX2 yX2_isMourned wsX2_isMourned) := goodIn_app (goodIn_of _ (by decide +kernel)) ggX3_leaveNothing_X2_isMourned
set_option maxRecDepth 20000 in
theorem ggX3_leaveNothing_X3_oneCouldSay : GoodIn wsX3_leaveNothing wsX3_oneCouldSay := goodIn_r _ [13, 1, 14, 15, 16, 17, 6, 18, 19, 20, 21, 22, 23, 24, 25, 26, 27, 28, 29, 30, 31, 32, 33, 34, 35, 36, 37, 38, 39, 40, 41, 42, 43, 44, 45, 46, 47, 48, 49, 50, 51, 52, 53, 54, 55, 56] (by decide +kernel) (by decide +kernel)
set_option maxRecDepth 20000 in
theorem gX3_leaveNothing_X3_oneCouldSay : GoodIn wsX3_leaveNothing (wsV RX3 204 RX3 yX3_oneCouldSay wsX3_oneCouldSay) := goodIn_app (goodIn_of _ (by decide +kernel)) ggX3_leaveNothing_X3_oneCouldSay
theorem dX3_leaveNothing_0 : decode cX3_leaveNothing 0 = .ok (.iconst 0, 1) := by decide +kernel
theorem dX3_leaveNothing_1 : decode cX3_leaveNothing 1 = .ok (.istore_n 2, 1) := by decide +kernel
theorem dX3_leaveNothing_2 : decode cX3_leaveNothing 2 = .ok (.iload_n 2, 1) := by decide +kernel
theorem dX3_leaveNothing_3 : decode cX3_leaveNothing 3 = .ok (.aload_n 0, 1) := by decide +kernel
theorem dX3_leaveNothing_4 : decode cX3_leaveNothing 4 = .ok (.getfield 10, 3) := by decide +kernel
theorem dX3_leaveNothing_7 : decode cX3_leaveNothing 7 = .ok (.getfield 171, 3) := by decide +kernel
theorem dX3_leaveNothing_10 : decode cX3_leaveNothing 10 = .ok (.if_icmp .ge 31, 3) := by decide +kernel
theorem dX3_leaveNothing_13 : decode cX3_leaveNothing 13 = .ok (.aload_n 0, 1) := by decide +kernel
theorem dX3_leaveNothing_14 : decode cX3_leaveNothing 14 = .ok (.getfield 10, 3) := by decide +kernel
theorem dX3_leaveNothing_17 : decode cX3_leaveNothing 17 = .ok (.iload_n 2, 1) := by decide +kernel
theorem dX3_leaveNothing_18 : decode cX3_leaveNothing 18 = .ok (.invokevirtual 133, 3) := by decide +kernel
theorem dX3_leaveNothing_21 : decode cX3_leaveNothing 21 = .ok (.ifCond .eq 14, 3) := by decide +kernel
theorem dX3_leaveNothing_24 : decode cX3_leaveNothing 24 = .ok (.aload_n 0, 1) := by decide +kernel
theorem dX3_leaveNothing_25 : decode cX3_leaveNothing 25 = .ok (.iload_n 1, 1) := by decide +kernel
theorem dX3_leaveNothing_26 : decode cX3_leaveNothing 26 = .ok (.iload_n 2, 1) := by decide +kernel
theorem dX3_leaveNothing_27 : decode cX3_leaveNothing 27 = .ok (.invokevirtual 204, 3) := by decide +kernel
theorem dX3_leaveNothing_30 : decode cX3_leaveNothing 30 = .ok (.ifCond .ne 5, 3) := by decide +kernel
theorem dX3_leaveNothing_33 : decode cX3_leaveNothing 33 = .ok (.iconst 0, 1) := by decide +kernel
theorem dX3_leaveNothing_34 : decode cX3_leaveNothing 34 = .ok (.ireturn, 1) := by decide +kernel
theorem dX3_leaveNothing_35 : decode cX3_leaveNothing 35 = .ok (.iinc 2 1, 3) := by decide +kernel
theorem dX3_leaveNothing_38 : decode cX3_leaveNothing 38 = .ok (.goto (-36), 3) := by decide +kernel
theorem dX3_leaveNothing_41 : decode cX3_leaveNothing 41 = .ok (.iconst 1, 1) := by decide +kernel
theorem dX3_leaveNothing_42 : decode cX3_leaveNothing 42 = .ok (.ireturn, 1) := by decide +kernel
set_option maxRecDepth 20000 in
theorem ggX3_oneCouldSay_X2_ableBits : GoodIn wsX3_oneCouldSay wsX2_ableBits := goodIn_r _ [7, 8, 9, 10, 11, 12, 6, 13, 14, 15, 16, 17, 18, 19, 20, 21, 22, 23, 24, 36, 37, 38, 39, 40, 41, 42, 43, 44, 45] (by decide +kernel) (by decide +kernel)
set_option maxRecDepth 20000 in
theorem gX3_oneCouldSay_X2_ableBits : GoodIn wsX3_oneCouldSay (wsV RX3 177 RX2 yX2_ableBits wsX2_ableBits) := goodIn_app (goodIn_of _ (by decide +kernel)) ggX3_oneCouldSay_X2_ableBits
theorem dX3_oneCouldSay_0 : decode cX3_oneCouldSay 0 = .ok (.aload_n 0, 1) := by decide +kernel
theorem dX3_oneCouldSay_1 : decode cX3_oneCouldSay 1 = .ok (.getfield 10, 3) := by decide +kernel
theorem dX3_oneCouldSay_4 : decode cX3_oneCouldSay 4 = .ok (.iload_n 2, 1) := by decide +kernel
theorem dX3_oneCouldSay_5 : decode cX3_oneCouldSay 5 = .ok (.invokevirtual 177, 3) := by decide +kernel
