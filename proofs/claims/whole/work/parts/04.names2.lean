set_option maxRecDepth 20000 in
theorem ggX6_init_X0_init : GoodIn wsX6_init wsX0_init := goodIn_r _ [33, 34, 2, 3, 27, 35, 36, 37, 38, 39, 40, 41, 42, 43, 78, 79, 80, 81, 82, 83, 84, 85, 86, 87] (by decide +kernel) (by decide +kernel)
set_option maxRecDepth 20000 in
theorem gX6_init_X0_init : GoodIn wsX6_init (wsX0_init) := ggX6_init_X0_init
set_option maxRecDepth 20000 in
theorem ggX6_init_X1_init : GoodIn wsX6_init wsX1_init := goodIn_r _ [46, 47, 2, 3, 27, 48, 49, 50, 51, 97, 98, 99, 100] (by decide +kernel) (by decide +kernel)
set_option maxRecDepth 20000 in
theorem gX6_init_X1_init : GoodIn wsX6_init (wsX1_init) := ggX6_init_X1_init
set_option maxRecDepth 20000 in
theorem ggX6_init_X5_init : GoodIn wsX6_init wsX5_init := goodIn_r _ [54, 55, 2, 3, 27, 56, 57, 101, 102, 103, 104, 105] (by decide +kernel) (by decide +kernel)
set_option maxRecDepth 20000 in
theorem gX6_init_X5_init : GoodIn wsX6_init (wsX5_init) := ggX6_init_X5_init
set_option maxRecDepth 20000 in
theorem ggX6_init_X4_init : GoodIn wsX6_init wsX4_init := goodIn_r _ [60, 61, 2, 3, 62, 5, 6, 63, 64, 10, 11, 65, 27, 66, 67, 68, 32, 33, 34, 35, 36, 37, 38, 39, 40, 41, 42, 43, 69, 45, 46, 47, 48, 49, 50, 51, 78, 79, 80, 81, 82, 83, 84, 85, 86, 87, 106, 107, 108, 109, 97, 98, 99, 100] (by decide +kernel) (by decide +kernel)
set_option maxRecDepth 20000 in
theorem gX6_init_X4_init : GoodIn wsX6_init (wsX4_init) := ggX6_init_X4_init
set_option maxRecDepth 20000 in
theorem ggX6_init_X3_init : GoodIn wsX6_init wsX3_init := goodIn_r _ [71, 72, 2, 3, 27, 73, 110, 111, 112, 113, 114, 115] (by decide +kernel) (by decide +kernel)
set_option maxRecDepth 20000 in
theorem gX6_init_X3_init_n46 : GoodIn wsX6_init (wsX3_init) := ggX6_init_X3_init
set_option maxRecDepth 20000 in
theorem ggX6_init_X2_init : GoodIn wsX6_init wsX2_init := goodIn_r _ [75, 76, 2, 3, 27, 77, 116, 117, 118] (by decide +kernel) (by decide +kernel)
set_option maxRecDepth 20000 in
theorem gX6_init_X2_init_n61 : GoodIn wsX6_init (wsX2_init) := ggX6_init_X2_init
theorem dX6_init_0 : decode cX6_init 0 = .ok (.aload_n 0, 1) := by decide +kernel
theorem dX6_init_1 : decode cX6_init 1 = .ok (.invokespecial 3, 3) := by decide +kernel
theorem dX6_init_4 : decode cX6_init 4 = .ok (.aload_n 0, 1) := by decide +kernel
theorem dX6_init_5 : decode cX6_init 5 = .ok (.new 9, 3) := by decide +kernel
theorem dX6_init_8 : decode cX6_init 8 = .ok (.dup, 1) := by decide +kernel
theorem dX6_init_9 : decode cX6_init 9 = .ok (.invokespecial 11, 3) := by decide +kernel
theorem dX6_init_12 : decode cX6_init 12 = .ok (.putfield 12, 3) := by decide +kernel
theorem dX6_init_15 : decode cX6_init 15 = .ok (.aload_n 0, 1) := by decide +kernel
theorem dX6_init_16 : decode cX6_init 16 = .ok (.new 9, 3) := by decide +kernel
theorem dX6_init_19 : decode cX6_init 19 = .ok (.dup, 1) := by decide +kernel
theorem dX6_init_20 : decode cX6_init 20 = .ok (.invokespecial 11, 3) := by decide +kernel
theorem dX6_init_23 : decode cX6_init 23 = .ok (.putfield 16, 3) := by decide +kernel
theorem dX6_init_26 : decode cX6_init 26 = .ok (.aload_n 0, 1) := by decide +kernel
theorem dX6_init_27 : decode cX6_init 27 = .ok (.new 19, 3) := by decide +kernel
theorem dX6_init_30 : decode cX6_init 30 = .ok (.dup, 1) := by decide +kernel
theorem dX6_init_31 : decode cX6_init 31 = .ok (.aload_n 0, 1) := by decide +kernel
theorem dX6_init_32 : decode cX6_init 32 = .ok (.getfield 12, 3) := by decide +kernel
theorem dX6_init_35 : decode cX6_init 35 = .ok (.invokespecial 21, 3) := by decide +kernel
theorem dX6_init_38 : decode cX6_init 38 = .ok (.putfield 24, 3) := by decide +kernel
theorem dX6_init_41 : decode cX6_init 41 = .ok (.aload_n 0, 1) := by decide +kernel
theorem dX6_init_42 : decode cX6_init 42 = .ok (.new 28, 3) := by decide +kernel
theorem dX6_init_45 : decode cX6_init 45 = .ok (.dup, 1) := by decide +kernel
theorem dX6_init_46 : decode cX6_init 46 = .ok (.aload_n 0, 1) := by decide +kernel
theorem dX6_init_47 : decode cX6_init 47 = .ok (.getfield 24, 3) := by decide +kernel
theorem dX6_init_50 : decode cX6_init 50 = .ok (.invokespecial 30, 3) := by decide +kernel
theorem dX6_init_53 : decode cX6_init 53 = .ok (.putfield 33, 3) := by decide +kernel
theorem dX6_init_56 : decode cX6_init 56 = .ok (.aload_n 0, 1) := by decide +kernel
theorem dX6_init_57 : decode cX6_init 57 = .ok (.new 37, 3) := by decide +kernel
theorem dX6_init_60 : decode cX6_init 60 = .ok (.dup, 1) := by decide +kernel
theorem dX6_init_61 : decode cX6_init 61 = .ok (.aload_n 0, 1) := by decide +kernel
theorem dX6_init_62 : decode cX6_init 62 = .ok (.getfield 12, 3) := by decide +kernel
theorem dX6_init_65 : decode cX6_init 65 = .ok (.invokespecial 39, 3) := by decide +kernel
theorem dX6_init_68 : decode cX6_init 68 = .ok (.putfield 40, 3) := by decide +kernel
theorem dX6_init_71 : decode cX6_init 71 = .ok (.aload_n 0, 1) := by decide +kernel
theorem dX6_init_72 : decode cX6_init 72 = .ok (.new 44, 3) := by decide +kernel
theorem dX6_init_75 : decode cX6_init 75 = .ok (.dup, 1) := by decide +kernel
theorem dX6_init_76 : decode cX6_init 76 = .ok (.invokespecial 46, 3) := by decide +kernel
theorem dX6_init_79 : decode cX6_init 79 = .ok (.putfield 47, 3) := by decide +kernel
theorem dX6_init_82 : decode cX6_init 82 = .ok (.aload_n 0, 1) := by decide +kernel
theorem dX6_init_83 : decode cX6_init 83 = .ok (.iconst 4, 1) := by decide +kernel
theorem dX6_init_84 : decode cX6_init 84 = .ok (.anewarray 51, 3) := by decide +kernel
theorem dX6_init_87 : decode cX6_init 87 = .ok (.putfield 53, 3) := by decide +kernel
theorem dX6_init_90 : decode cX6_init 90 = .ok (.aload_n 0, 1) := by decide +kernel
theorem dX6_init_91 : decode cX6_init 91 = .ok (.bipush 7, 2) := by decide +kernel
theorem dX6_init_93 : decode cX6_init 93 = .ok (.newarray .int, 2) := by decide +kernel
theorem dX6_init_95 : decode cX6_init 95 = .ok (.putfield 57, 3) := by decide +kernel
theorem dX6_init_98 : decode cX6_init 98 = .ok (.iconst 0, 1) := by decide +kernel
theorem dX6_init_99 : decode cX6_init 99 = .ok (.istore_n 1, 1) := by decide +kernel
theorem dX6_init_100 : decode cX6_init 100 = .ok (.iload_n 1, 1) := by decide +kernel
theorem dX6_init_101 : decode cX6_init 101 = .ok (.iconst 4, 1) := by decide +kernel
theorem dX6_init_102 : decode cX6_init 102 = .ok (.if_icmp .ge 22, 3) := by decide +kernel
theorem dX6_init_105 : decode cX6_init 105 = .ok (.aload_n 0, 1) := by decide +kernel
theorem dX6_init_106 : decode cX6_init 106 = .ok (.getfield 53, 3) := by decide +kernel
theorem dX6_init_109 : decode cX6_init 109 = .ok (.iload_n 1, 1) := by decide +kernel
theorem dX6_init_110 : decode cX6_init 110 = .ok (.new 51, 3) := by decide +kernel
theorem dX6_init_113 : decode cX6_init 113 = .ok (.dup, 1) := by decide +kernel
theorem dX6_init_114 : decode cX6_init 114 = .ok (.invokespecial 61, 3) := by decide +kernel
theorem dX6_init_117 : decode cX6_init 117 = .ok (.aastore, 1) := by decide +kernel
theorem dX6_init_118 : decode cX6_init 118 = .ok (.iinc 1 1, 3) := by decide +kernel
theorem dX6_init_121 : decode cX6_init 121 = .ok (.goto (-21), 3) := by decide +kernel
theorem dX6_init_124 : decode cX6_init 124 = .ok (.return_, 1) := by decide +kernel
set_option maxRecDepth 20000 in
theorem ggX6_tent_X6_isKind : GoodIn wsX6_tent wsX6_isKind := goodIn_r _ [9, 10, 11, 8, 12] (by decide +kernel) (by decide +kernel)
set_option maxRecDepth 20000 in
theorem gX6_tent_X6_isKind : GoodIn wsX6_tent (va_wsS RX6 62 yX6_isKind wsX6_isKind) := goodIn_app (goodIn_of _ (by decide +kernel)) ggX6_tent_X6_isKind
set_option maxRecDepth 20000 in
theorem ggX6_tent_X6_isYard : GoodIn wsX6_tent wsX6_isYard := goodIn_r _ [15, 16, 17, 8, 18, 10, 11, 12] (by decide +kernel) (by decide +kernel)
set_option maxRecDepth 20000 in
theorem gX6_tent_X6_isYard : GoodIn wsX6_tent (va_wsS RX6 66 yX6_isYard wsX6_isYard) := goodIn_app (goodIn_of _ (by decide +kernel)) ggX6_tent_X6_isYard
set_option maxRecDepth 20000 in
theorem ggX6_tent_X6_finding : GoodIn wsX6_tent wsX6_finding := goodIn_r _ [22, 1, 23, 10, 11, 8, 12, 44, 45, 46, 47, 48, 49, 50, 51, 52] (by decide +kernel) (by decide +kernel)
set_option maxRecDepth 20000 in
theorem gX6_tent_X6_finding : GoodIn wsX6_tent (wsV RX6 71 RX6 yX6_finding wsX6_finding) := goodIn_app (goodIn_of _ (by decide +kernel)) ggX6_tent_X6_finding
set_option maxRecDepth 20000 in
theorem ggX6_tent_X6_yardOf : GoodIn wsX6_tent wsX6_yardOf := goodIn_r _ [26] (by decide +kernel) (by decide +kernel)
set_option maxRecDepth 20000 in
theorem gX6_tent_X6_yardOf : GoodIn wsX6_tent (va_wsS RX6 75 yX6_yardOf wsX6_yardOf) := goodIn_app (goodIn_of _ (by decide +kernel)) ggX6_tent_X6_yardOf
set_option maxRecDepth 20000 in
theorem ggX6_tent_X0_tentOn : GoodIn wsX6_tent wsX0_tentOn := goodIn_r _ [31, 32, 33, 53, 54, 55, 56, 57, 58, 59, 60, 61, 62] (by decide +kernel) (by decide +kernel)
set_option maxRecDepth 20000 in
theorem gX6_tent_X0_tentOn : GoodIn wsX6_tent (wsV RX6 79 RX0 yX0_tentOn wsX0_tentOn) := goodIn_app (goodIn_of _ (by decide +kernel)) ggX6_tent_X0_tentOn
set_option maxRecDepth 20000 in
theorem ggX6_tent_X0_pitch : GoodIn wsX6_tent wsX0_pitch := goodIn_r _ [37, 32, 38, 33, 39, 40, 41, 30, 42, 43, 53, 54, 55, 56, 57, 58, 59, 60, 61, 62] (by decide +kernel) (by decide +kernel)
set_option maxRecDepth 20000 in
theorem gX6_tent_X0_pitch : GoodIn wsX6_tent (wsV RX6 88 RX0 yX0_pitch wsX0_pitch) := goodIn_app (goodIn_of _ (by decide +kernel)) ggX6_tent_X0_pitch
theorem dX6_tent_0 : decode cX6_tent 0 = .ok (.iload_n 1, 1) := by decide +kernel
theorem dX6_tent_1 : decode cX6_tent 1 = .ok (.invokestatic 62, 3) := by decide +kernel
theorem dX6_tent_4 : decode cX6_tent 4 = .ok (.ifCond .eq 11, 3) := by decide +kernel
theorem dX6_tent_7 : decode cX6_tent 7 = .ok (.iload_n 2, 1) := by decide +kernel
theorem dX6_tent_8 : decode cX6_tent 8 = .ok (.iload_n 3, 1) := by decide +kernel
theorem dX6_tent_9 : decode cX6_tent 9 = .ok (.invokestatic 66, 3) := by decide +kernel
theorem dX6_tent_12 : decode cX6_tent 12 = .ok (.ifCond .ne 10, 3) := by decide +kernel
theorem dX6_tent_15 : decode cX6_tent 15 = .ok (.aload_n 0, 1) := by decide +kernel
theorem dX6_tent_16 : decode cX6_tent 16 = .ok (.ldc 70, 2) := by decide +kernel
theorem dX6_tent_18 : decode cX6_tent 18 = .ok (.invokevirtual 71, 3) := by decide +kernel
theorem dX6_tent_21 : decode cX6_tent 21 = .ok (.ireturn, 1) := by decide +kernel
theorem dX6_tent_22 : decode cX6_tent 22 = .ok (.aload_n 0, 1) := by decide +kernel
theorem dX6_tent_23 : decode cX6_tent 23 = .ok (.getfield 12, 3) := by decide +kernel
theorem dX6_tent_26 : decode cX6_tent 26 = .ok (.iload_n 2, 1) := by decide +kernel
theorem dX6_tent_27 : decode cX6_tent 27 = .ok (.iload_n 3, 1) := by decide +kernel
theorem dX6_tent_28 : decode cX6_tent 28 = .ok (.invokestatic 75, 3) := by decide +kernel
theorem dX6_tent_31 : decode cX6_tent 31 = .ok (.invokevirtual 79, 3) := by decide +kernel
theorem dX6_tent_34 : decode cX6_tent 34 = .ok (.iconst (-1), 1) := by decide +kernel
theorem dX6_tent_35 : decode cX6_tent 35 = .ok (.if_icmp .eq 10, 3) := by decide +kernel
theorem dX6_tent_38 : decode cX6_tent 38 = .ok (.aload_n 0, 1) := by decide +kernel
theorem dX6_tent_39 : decode cX6_tent 39 = .ok (.ldc 82, 2) := by decide +kernel
theorem dX6_tent_41 : decode cX6_tent 41 = .ok (.invokevirtual 71, 3) := by decide +kernel
theorem dX6_tent_44 : decode cX6_tent 44 = .ok (.ireturn, 1) := by decide +kernel
theorem dX6_tent_45 : decode cX6_tent 45 = .ok (.aload_n 0, 1) := by decide +kernel
theorem dX6_tent_46 : decode cX6_tent 46 = .ok (.getfield 12, 3) := by decide +kernel
theorem dX6_tent_49 : decode cX6_tent 49 = .ok (.getfield 83, 3) := by decide +kernel
theorem dX6_tent_52 : decode cX6_tent 52 = .ok (.bipush 10, 2) := by decide +kernel
theorem dX6_tent_54 : decode cX6_tent 54 = .ok (.if_icmp .lt 10, 3) := by decide +kernel
theorem dX6_tent_57 : decode cX6_tent 57 = .ok (.aload_n 0, 1) := by decide +kernel
theorem dX6_tent_58 : decode cX6_tent 58 = .ok (.ldc 87, 2) := by decide +kernel
theorem dX6_tent_60 : decode cX6_tent 60 = .ok (.invokevirtual 71, 3) := by decide +kernel
theorem dX6_tent_63 : decode cX6_tent 63 = .ok (.ireturn, 1) := by decide +kernel
theorem dX6_tent_64 : decode cX6_tent 64 = .ok (.aload_n 0, 1) := by decide +kernel
theorem dX6_tent_65 : decode cX6_tent 65 = .ok (.getfield 12, 3) := by decide +kernel
theorem dX6_tent_68 : decode cX6_tent 68 = .ok (.iload_n 1, 1) := by decide +kernel
theorem dX6_tent_69 : decode cX6_tent 69 = .ok (.iload_n 2, 1) := by decide +kernel
theorem dX6_tent_70 : decode cX6_tent 70 = .ok (.iload_n 3, 1) := by decide +kernel
theorem dX6_tent_71 : decode cX6_tent 71 = .ok (.invokestatic 75, 3) := by decide +kernel
theorem dX6_tent_74 : decode cX6_tent 74 = .ok (.iconst 0, 1) := by decide +kernel
theorem dX6_tent_75 : decode cX6_tent 75 = .ok (.invokevirtual 88, 3) := by decide +kernel
theorem dX6_tent_78 : decode cX6_tent 78 = .ok (.ireturn, 1) := by decide +kernel
set_option maxRecDepth 20000 in
theorem ggX6_of_X0_has : GoodIn wsX6_of wsX0_has := goodIn_r _ [12, 13, 101, 102, 103, 104, 105, 106, 107, 108, 109, 110] (by decide +kernel) (by decide +kernel)
set_option maxRecDepth 20000 in
theorem gX6_of_X0_has : GoodIn wsX6_of (wsV RX6 92 RX0 yX0_has wsX0_has) := goodIn_app (goodIn_of _ (by decide +kernel)) ggX6_of_X0_has
set_option maxRecDepth 20000 in
theorem ggX6_of_X6_finding : GoodIn wsX6_of wsX6_finding := goodIn_r _ [18, 2, 19, 20, 21, 17, 22, 92, 93, 94, 95, 96, 97, 98, 99, 100] (by decide +kernel) (by decide +kernel)
set_option maxRecDepth 20000 in
theorem gX6_of_X6_finding : GoodIn wsX6_of (wsV RX6 71 RX6 yX6_finding wsX6_finding) := goodIn_app (goodIn_of _ (by decide +kernel)) ggX6_of_X6_finding
set_option maxRecDepth 20000 in
theorem ggX6_of_X1_listen : GoodIn wsX6_of wsX1_listen := goodIn_r _ [27, 28, 29, 30, 31, 32, 26, 33, 34, 35, 36, 37, 38, 11, 39, 40, 41, 42, 43, 44, 45, 46, 47, 48, 49, 50, 51, 52, 53, 54, 55, 56, 57, 58, 59, 60, 61, 62, 63, 64, 65, 66, 111, 112, 113, 114, 101, 102, 103, 104, 105, 106, 107, 108, 109, 110] (by decide +kernel) (by decide +kernel)
set_option maxRecDepth 20000 in
theorem gX6_of_X1_listen : GoodIn wsX6_of (wsV RX6 95 RX1 yX1_listen wsX1_listen) := goodIn_app (goodIn_of _ (by decide +kernel)) ggX6_of_X1_listen
set_option maxRecDepth 20000 in
theorem ggX6_of_X0_wordOf : GoodIn wsX6_of wsX0_wordOf := goodIn_r _ [70, 71, 101, 102, 103, 104, 105, 106, 107, 108, 109, 110] (by decide +kernel) (by decide +kernel)
set_option maxRecDepth 20000 in
theorem gX6_of_X0_wordOf : GoodIn wsX6_of (wsV RX6 104 RX0 yX0_wordOf wsX0_wordOf) := goodIn_app (goodIn_of _ (by decide +kernel)) ggX6_of_X0_wordOf
set_option maxRecDepth 20000 in
theorem ggX6_of_X1_willSay : GoodIn wsX6_of wsX1_willSay := goodIn_r _ [75, 28, 62, 52, 51, 111, 112, 113, 114, 101, 102, 103, 104, 105, 106, 107, 108, 109, 110] (by decide +kernel) (by decide +kernel)
set_option maxRecDepth 20000 in
theorem gX6_of_X1_willSay : GoodIn wsX6_of (wsV RX6 113 RX1 yX1_willSay wsX1_willSay) := goodIn_app (goodIn_of _ (by decide +kernel)) ggX6_of_X1_willSay
set_option maxRecDepth 20000 in
theorem ggX6_of_X1_lineOf : GoodIn wsX6_of wsX1_lineOf := goodIn_r _ [79, 28, 29, 52, 80, 81, 82, 26, 83, 111, 112, 113, 114, 101, 102, 103, 104, 105, 106, 107, 108, 109, 110] (by decide +kernel) (by decide +kernel)
set_option maxRecDepth 20000 in
theorem gX6_of_X1_lineOf : GoodIn wsX6_of (wsV RX6 116 RX1 yX1_lineOf wsX1_lineOf) := goodIn_app (goodIn_of _ (by decide +kernel)) ggX6_of_X1_lineOf
set_option maxRecDepth 20000 in
theorem ggX6_of_X1_followersOf : GoodIn wsX6_of wsX1_followersOf := goodIn_r _ [87, 28, 29, 88, 89, 90, 26, 91, 52, 111, 112, 113, 114, 101, 102, 103, 104, 105, 106, 107, 108, 109, 110] (by decide +kernel) (by decide +kernel)
set_option maxRecDepth 20000 in
theorem gX6_of_X1_followersOf : GoodIn wsX6_of (wsV RX6 119 RX1 yX1_followersOf wsX1_followersOf) := goodIn_app (goodIn_of _ (by decide +kernel)) ggX6_of_X1_followersOf
theorem dX6_of_0 : decode cX6_of 0 = .ok (.aload_n 0, 1) := by decide +kernel
theorem dX6_of_1 : decode cX6_of 1 = .ok (.getfield 12, 3) := by decide +kernel
theorem dX6_of_4 : decode cX6_of 4 = .ok (.iload_n 1, 1) := by decide +kernel
theorem dX6_of_5 : decode cX6_of 5 = .ok (.invokevirtual 92, 3) := by decide +kernel
theorem dX6_of_8 : decode cX6_of 8 = .ok (.ifCond .ne 10, 3) := by decide +kernel
theorem dX6_of_11 : decode cX6_of 11 = .ok (.aload_n 0, 1) := by decide +kernel
theorem dX6_of_12 : decode cX6_of 12 = .ok (.ldc 70, 2) := by decide +kernel
theorem dX6_of_14 : decode cX6_of 14 = .ok (.invokevirtual 71, 3) := by decide +kernel
theorem dX6_of_17 : decode cX6_of 17 = .ok (.ireturn, 1) := by decide +kernel
theorem dX6_of_18 : decode cX6_of 18 = .ok (.aload_n 0, 1) := by decide +kernel
theorem dX6_of_19 : decode cX6_of 19 = .ok (.getfield 24, 3) := by decide +kernel
theorem dX6_of_22 : decode cX6_of 22 = .ok (.invokevirtual 95, 3) := by decide +kernel
theorem dX6_of_25 : decode cX6_of 25 = .ok (.iload_n 2, 1) := by decide +kernel
theorem dX6_of_26 : decode cX6_of 26 = .ok (.tableswitch 135 0 7 #[46, 56, 69, 82, 91, 101, 117, 126], 46) := by decide +kernel
theorem dX6_of_72 : decode cX6_of 72 = .ok (.aload_n 0, 1) := by decide +kernel
theorem dX6_of_73 : decode cX6_of 73 = .ok (.getfield 12, 3) := by decide +kernel
theorem dX6_of_76 : decode cX6_of 76 = .ok (.getfield 98, 3) := by decide +kernel
theorem dX6_of_79 : decode cX6_of 79 = .ok (.iload_n 1, 1) := by decide +kernel
theorem dX6_of_80 : decode cX6_of 80 = .ok (.iaload, 1) := by decide +kernel
theorem dX6_of_81 : decode cX6_of 81 = .ok (.ireturn, 1) := by decide +kernel
theorem dX6_of_82 : decode cX6_of 82 = .ok (.aload_n 0, 1) := by decide +kernel
theorem dX6_of_83 : decode cX6_of 83 = .ok (.getfield 12, 3) := by decide +kernel
theorem dX6_of_86 : decode cX6_of 86 = .ok (.getfield 101, 3) := by decide +kernel
theorem dX6_of_89 : decode cX6_of 89 = .ok (.iload_n 1, 1) := by decide +kernel
theorem dX6_of_90 : decode cX6_of 90 = .ok (.iaload, 1) := by decide +kernel
theorem dX6_of_91 : decode cX6_of 91 = .ok (.bipush 12, 2) := by decide +kernel
theorem dX6_of_93 : decode cX6_of 93 = .ok (.irem, 1) := by decide +kernel
theorem dX6_of_94 : decode cX6_of 94 = .ok (.ireturn, 1) := by decide +kernel
theorem dX6_of_95 : decode cX6_of 95 = .ok (.aload_n 0, 1) := by decide +kernel
theorem dX6_of_96 : decode cX6_of 96 = .ok (.getfield 12, 3) := by decide +kernel
theorem dX6_of_99 : decode cX6_of 99 = .ok (.getfield 101, 3) := by decide +kernel
theorem dX6_of_102 : decode cX6_of 102 = .ok (.iload_n 1, 1) := by decide +kernel
theorem dX6_of_103 : decode cX6_of 103 = .ok (.iaload, 1) := by decide +kernel
theorem dX6_of_104 : decode cX6_of 104 = .ok (.bipush 12, 2) := by decide +kernel
theorem dX6_of_106 : decode cX6_of 106 = .ok (.idiv, 1) := by decide +kernel
theorem dX6_of_107 : decode cX6_of 107 = .ok (.ireturn, 1) := by decide +kernel
theorem dX6_of_108 : decode cX6_of 108 = .ok (.aload_n 0, 1) := by decide +kernel
theorem dX6_of_109 : decode cX6_of 109 = .ok (.getfield 12, 3) := by decide +kernel
theorem dX6_of_112 : decode cX6_of 112 = .ok (.iload_n 1, 1) := by decide +kernel
theorem dX6_of_113 : decode cX6_of 113 = .ok (.invokevirtual 104, 3) := by decide +kernel
theorem dX6_of_116 : decode cX6_of 116 = .ok (.ireturn, 1) := by decide +kernel
theorem dX6_of_117 : decode cX6_of 117 = .ok (.aload_n 0, 1) := by decide +kernel
theorem dX6_of_118 : decode cX6_of 118 = .ok (.getfield 24, 3) := by decide +kernel
theorem dX6_of_121 : decode cX6_of 121 = .ok (.getfield 107, 3) := by decide +kernel
theorem dX6_of_124 : decode cX6_of 124 = .ok (.iload_n 1, 1) := by decide +kernel
theorem dX6_of_125 : decode cX6_of 125 = .ok (.iaload, 1) := by decide +kernel
theorem dX6_of_126 : decode cX6_of 126 = .ok (.ireturn, 1) := by decide +kernel
theorem dX6_of_127 : decode cX6_of 127 = .ok (.aload_n 0, 1) := by decide +kernel
theorem dX6_of_128 : decode cX6_of 128 = .ok (.getfield 24, 3) := by decide +kernel
theorem dX6_of_131 : decode cX6_of 131 = .ok (.iload_n 1, 1) := by decide +kernel
theorem dX6_of_132 : decode cX6_of 132 = .ok (.aload_n 0, 1) := by decide +kernel
theorem dX6_of_133 : decode cX6_of 133 = .ok (.getfield 12, 3) := by decide +kernel
theorem dX6_of_136 : decode cX6_of 136 = .ok (.getfield 110, 3) := by decide +kernel
theorem dX6_of_139 : decode cX6_of 139 = .ok (.invokevirtual 113, 3) := by decide +kernel
theorem dX6_of_142 : decode cX6_of 142 = .ok (.ireturn, 1) := by decide +kernel
theorem dX6_of_143 : decode cX6_of 143 = .ok (.aload_n 0, 1) := by decide +kernel
theorem dX6_of_144 : decode cX6_of 144 = .ok (.getfield 24, 3) := by decide +kernel
theorem dX6_of_147 : decode cX6_of 147 = .ok (.iload_n 1, 1) := by decide +kernel
theorem dX6_of_148 : decode cX6_of 148 = .ok (.invokevirtual 116, 3) := by decide +kernel
theorem dX6_of_151 : decode cX6_of 151 = .ok (.ireturn, 1) := by decide +kernel
theorem dX6_of_152 : decode cX6_of 152 = .ok (.aload_n 0, 1) := by decide +kernel
theorem dX6_of_153 : decode cX6_of 153 = .ok (.getfield 24, 3) := by decide +kernel
theorem dX6_of_156 : decode cX6_of 156 = .ok (.iload_n 1, 1) := by decide +kernel
theorem dX6_of_157 : decode cX6_of 157 = .ok (.invokevirtual 119, 3) := by decide +kernel
theorem dX6_of_160 : decode cX6_of 160 = .ok (.ireturn, 1) := by decide +kernel
theorem dX6_of_161 : decode cX6_of 161 = .ok (.aload_n 0, 1) := by decide +kernel
theorem dX6_of_162 : decode cX6_of 162 = .ok (.ldc 70, 2) := by decide +kernel
theorem dX6_of_164 : decode cX6_of 164 = .ok (.invokevirtual 71, 3) := by decide +kernel
theorem dX6_of_167 : decode cX6_of 167 = .ok (.ireturn, 1) := by decide +kernel
set_option maxRecDepth 20000 in
theorem ggX6_change_X0_has : GoodIn wsX6_change wsX0_has := goodIn_r _ [8, 9, 43, 44, 45, 46, 47, 48, 49, 50, 51, 52] (by decide +kernel) (by decide +kernel)
set_option maxRecDepth 20000 in
theorem gX6_change_X0_has : GoodIn wsX6_change (wsV RX6 92 RX0 yX0_has wsX0_has) := goodIn_app (goodIn_of _ (by decide +kernel)) ggX6_change_X0_has
set_option maxRecDepth 20000 in
theorem ggX6_change_X6_finding : GoodIn wsX6_change wsX6_finding := goodIn_r _ [14, 2, 15, 16, 17, 13, 18, 34, 35, 36, 37, 38, 39, 40, 41, 42] (by decide +kernel) (by decide +kernel)
set_option maxRecDepth 20000 in
theorem gX6_change_X6_finding : GoodIn wsX6_change (wsV RX6 71 RX6 yX6_finding wsX6_finding) := goodIn_app (goodIn_of _ (by decide +kernel)) ggX6_change_X6_finding
set_option maxRecDepth 20000 in
theorem ggX6_change_X6_isKind : GoodIn wsX6_change wsX6_isKind := goodIn_r _ [21, 16, 17, 13, 18] (by decide +kernel) (by decide +kernel)
set_option maxRecDepth 20000 in
theorem gX6_change_X6_isKind : GoodIn wsX6_change (va_wsS RX6 62 yX6_isKind wsX6_isKind) := goodIn_app (goodIn_of _ (by decide +kernel)) ggX6_change_X6_isKind
set_option maxRecDepth 20000 in
theorem ggX6_change_X6_isBit : GoodIn wsX6_change wsX6_isBit := goodIn_r _ [24, 16, 17, 13, 18] (by decide +kernel) (by decide +kernel)
set_option maxRecDepth 20000 in
theorem gX6_change_X6_isBit : GoodIn wsX6_change (va_wsS RX6 122 yX6_isBit wsX6_isBit) := goodIn_app (goodIn_of _ (by decide +kernel)) ggX6_change_X6_isBit
set_option maxRecDepth 20000 in
theorem ggX6_change_X0_wordOf : GoodIn wsX6_change wsX0_wordOf := goodIn_r _ [28, 29, 43, 44, 45, 46, 47, 48, 49, 50, 51, 52] (by decide +kernel) (by decide +kernel)
set_option maxRecDepth 20000 in
theorem gX6_change_X0_wordOf : GoodIn wsX6_change (wsV RX6 104 RX0 yX0_wordOf wsX0_wordOf) := goodIn_app (goodIn_of _ (by decide +kernel)) ggX6_change_X0_wordOf
set_option maxRecDepth 20000 in
theorem ggX6_change_X0_giveWord : GoodIn wsX6_change wsX0_giveWord := goodIn_r _ [33, 29, 43, 44, 45, 46, 47, 48, 49, 50, 51, 52] (by decide +kernel) (by decide +kernel)
set_option maxRecDepth 20000 in
theorem gX6_change_X0_giveWord : GoodIn wsX6_change (wsV RX6 125 RX0 yX0_giveWord wsX0_giveWord) := goodIn_app (goodIn_of _ (by decide +kernel)) ggX6_change_X0_giveWord
theorem dX6_change_0 : decode cX6_change 0 = .ok (.aload_n 0, 1) := by decide +kernel
theorem dX6_change_1 : decode cX6_change 1 = .ok (.getfield 12, 3) := by decide +kernel
theorem dX6_change_4 : decode cX6_change 4 = .ok (.iload_n 1, 1) := by decide +kernel
theorem dX6_change_5 : decode cX6_change 5 = .ok (.invokevirtual 92, 3) := by decide +kernel
theorem dX6_change_8 : decode cX6_change 8 = .ok (.ifCond .ne 10, 3) := by decide +kernel
theorem dX6_change_11 : decode cX6_change 11 = .ok (.aload_n 0, 1) := by decide +kernel
theorem dX6_change_12 : decode cX6_change 12 = .ok (.ldc 70, 2) := by decide +kernel
theorem dX6_change_14 : decode cX6_change 14 = .ok (.invokevirtual 71, 3) := by decide +kernel
theorem dX6_change_17 : decode cX6_change 17 = .ok (.ireturn, 1) := by decide +kernel
theorem dX6_change_18 : decode cX6_change 18 = .ok (.iload_n 2, 1) := by decide +kernel
theorem dX6_change_19 : decode cX6_change 19 = .ok (.ifCond .ne 34, 3) := by decide +kernel
theorem dX6_change_22 : decode cX6_change 22 = .ok (.iload_n 3, 1) := by decide +kernel
theorem dX6_change_23 : decode cX6_change 23 = .ok (.invokestatic 62, 3) := by decide +kernel
theorem dX6_change_26 : decode cX6_change 26 = .ok (.ifCond .eq 27, 3) := by decide +kernel
theorem dX6_change_29 : decode cX6_change 29 = .ok (.aload_n 0, 1) := by decide +kernel
theorem dX6_change_30 : decode cX6_change 30 = .ok (.getfield 12, 3) := by decide +kernel
theorem dX6_change_33 : decode cX6_change 33 = .ok (.getfield 98, 3) := by decide +kernel
theorem dX6_change_36 : decode cX6_change 36 = .ok (.iload_n 1, 1) := by decide +kernel
theorem dX6_change_37 : decode cX6_change 37 = .ok (.iaload, 1) := by decide +kernel
theorem dX6_change_38 : decode cX6_change 38 = .ok (.istore 4, 2) := by decide +kernel
theorem dX6_change_40 : decode cX6_change 40 = .ok (.aload_n 0, 1) := by decide +kernel
theorem dX6_change_41 : decode cX6_change 41 = .ok (.getfield 12, 3) := by decide +kernel
theorem dX6_change_44 : decode cX6_change 44 = .ok (.getfield 98, 3) := by decide +kernel
theorem dX6_change_47 : decode cX6_change 47 = .ok (.iload_n 1, 1) := by decide +kernel
theorem dX6_change_48 : decode cX6_change 48 = .ok (.iload_n 3, 1) := by decide +kernel
theorem dX6_change_49 : decode cX6_change 49 = .ok (.iastore, 1) := by decide +kernel
theorem dX6_change_50 : decode cX6_change 50 = .ok (.iload 4, 2) := by decide +kernel
theorem dX6_change_52 : decode cX6_change 52 = .ok (.ireturn, 1) := by decide +kernel
theorem dX6_change_53 : decode cX6_change 53 = .ok (.iload_n 2, 1) := by decide +kernel
theorem dX6_change_54 : decode cX6_change 54 = .ok (.iconst 3, 1) := by decide +kernel
theorem dX6_change_55 : decode cX6_change 55 = .ok (.if_icmp .ne 32, 3) := by decide +kernel
theorem dX6_change_58 : decode cX6_change 58 = .ok (.iload_n 3, 1) := by decide +kernel
theorem dX6_change_59 : decode cX6_change 59 = .ok (.invokestatic 122, 3) := by decide +kernel
theorem dX6_change_62 : decode cX6_change 62 = .ok (.ifCond .eq 25, 3) := by decide +kernel
theorem dX6_change_65 : decode cX6_change 65 = .ok (.aload_n 0, 1) := by decide +kernel
theorem dX6_change_66 : decode cX6_change 66 = .ok (.getfield 12, 3) := by decide +kernel
theorem dX6_change_69 : decode cX6_change 69 = .ok (.iload_n 1, 1) := by decide +kernel
theorem dX6_change_70 : decode cX6_change 70 = .ok (.invokevirtual 104, 3) := by decide +kernel
theorem dX6_change_73 : decode cX6_change 73 = .ok (.istore 4, 2) := by decide +kernel
theorem dX6_change_75 : decode cX6_change 75 = .ok (.aload_n 0, 1) := by decide +kernel
theorem dX6_change_76 : decode cX6_change 76 = .ok (.getfield 12, 3) := by decide +kernel
theorem dX6_change_79 : decode cX6_change 79 = .ok (.iload_n 1, 1) := by decide +kernel
theorem dX6_change_80 : decode cX6_change 80 = .ok (.iload_n 3, 1) := by decide +kernel
theorem dX6_change_81 : decode cX6_change 81 = .ok (.invokevirtual 125, 3) := by decide +kernel
theorem dX6_change_84 : decode cX6_change 84 = .ok (.iload 4, 2) := by decide +kernel
theorem dX6_change_86 : decode cX6_change 86 = .ok (.ireturn, 1) := by decide +kernel
theorem dX6_change_87 : decode cX6_change 87 = .ok (.aload_n 0, 1) := by decide +kernel
theorem dX6_change_88 : decode cX6_change 88 = .ok (.ldc 70, 2) := by decide +kernel
theorem dX6_change_90 : decode cX6_change 90 = .ok (.invokevirtual 71, 3) := by decide +kernel
theorem dX6_change_93 : decode cX6_change 93 = .ok (.ireturn, 1) := by decide +kernel
set_option maxRecDepth 20000 in
theorem ggX6_move_X0_has : GoodIn wsX6_move wsX0_has := goodIn_r _ [9, 10, 58, 59, 60, 61, 62, 63, 64, 65, 66, 67] (by decide +kernel) (by decide +kernel)
set_option maxRecDepth 20000 in
theorem gX6_move_X0_has : GoodIn wsX6_move (wsV RX6 92 RX0 yX0_has wsX0_has) := goodIn_app (goodIn_of _ (by decide +kernel)) ggX6_move_X0_has
set_option maxRecDepth 20000 in
theorem ggX6_move_X6_isYard : GoodIn wsX6_move wsX6_isYard := goodIn_r _ [14, 15, 16, 13, 17, 18, 19, 20] (by decide +kernel) (by decide +kernel)
set_option maxRecDepth 20000 in
theorem gX6_move_X6_isYard : GoodIn wsX6_move (va_wsS RX6 66 yX6_isYard wsX6_isYard) := goodIn_app (goodIn_of _ (by decide +kernel)) ggX6_move_X6_isYard
set_option maxRecDepth 20000 in
theorem ggX6_move_X6_finding : GoodIn wsX6_move wsX6_finding := goodIn_r _ [24, 2, 25, 18, 19, 13, 20, 49, 50, 51, 52, 53, 54, 55, 56, 57] (by decide +kernel) (by decide +kernel)
set_option maxRecDepth 20000 in
theorem gX6_move_X6_finding : GoodIn wsX6_move (wsV RX6 71 RX6 yX6_finding wsX6_finding) := goodIn_app (goodIn_of _ (by decide +kernel)) ggX6_move_X6_finding
set_option maxRecDepth 20000 in
theorem ggX6_move_X6_yardOf : GoodIn wsX6_move wsX6_yardOf := goodIn_r _ [28] (by decide +kernel) (by decide +kernel)
set_option maxRecDepth 20000 in
theorem gX6_move_X6_yardOf : GoodIn wsX6_move (va_wsS RX6 75 yX6_yardOf wsX6_yardOf) := goodIn_app (goodIn_of _ (by decide +kernel)) ggX6_move_X6_yardOf
set_option maxRecDepth 20000 in
theorem ggX6_move_X0_mayStand : GoodIn wsX6_move wsX0_mayStand := goodIn_r _ [32, 33, 34, 35, 8, 36, 10, 37, 58, 59, 60, 61, 62, 63, 64, 65, 66, 67] (by decide +kernel) (by decide +kernel)
set_option maxRecDepth 20000 in
theorem gX6_move_X0_mayStand : GoodIn wsX6_move (wsV RX6 129 RX0 yX0_mayStand wsX0_mayStand) := goodIn_app (goodIn_of _ (by decide +kernel)) ggX6_move_X0_mayStand
set_option maxRecDepth 20000 in
theorem ggX6_move_X0_apart : GoodIn wsX6_move wsX0_apart := goodIn_r _ [41, 42, 43, 44, 45, 46, 47, 48, 58, 59, 60, 61, 62, 63, 64, 65, 66, 67] (by decide +kernel) (by decide +kernel)
set_option maxRecDepth 20000 in
theorem gX6_move_X0_apart : GoodIn wsX6_move (wsV RX6 132 RX0 yX0_apart wsX0_apart) := goodIn_app (goodIn_of _ (by decide +kernel)) ggX6_move_X0_apart
theorem dX6_move_0 : decode cX6_move 0 = .ok (.aload_n 0, 1) := by decide +kernel
theorem dX6_move_1 : decode cX6_move 1 = .ok (.getfield 12, 3) := by decide +kernel
theorem dX6_move_4 : decode cX6_move 4 = .ok (.iload_n 1, 1) := by decide +kernel
theorem dX6_move_5 : decode cX6_move 5 = .ok (.invokevirtual 92, 3) := by decide +kernel
theorem dX6_move_8 : decode cX6_move 8 = .ok (.ifCond .eq 11, 3) := by decide +kernel
theorem dX6_move_11 : decode cX6_move 11 = .ok (.iload_n 2, 1) := by decide +kernel
theorem dX6_move_12 : decode cX6_move 12 = .ok (.iload_n 3, 1) := by decide +kernel
theorem dX6_move_13 : decode cX6_move 13 = .ok (.invokestatic 66, 3) := by decide +kernel
theorem dX6_move_16 : decode cX6_move 16 = .ok (.ifCond .ne 10, 3) := by decide +kernel
theorem dX6_move_19 : decode cX6_move 19 = .ok (.aload_n 0, 1) := by decide +kernel
theorem dX6_move_20 : decode cX6_move 20 = .ok (.ldc 70, 2) := by decide +kernel
theorem dX6_move_22 : decode cX6_move 22 = .ok (.invokevirtual 71, 3) := by decide +kernel
theorem dX6_move_25 : decode cX6_move 25 = .ok (.ireturn, 1) := by decide +kernel
theorem dX6_move_26 : decode cX6_move 26 = .ok (.iload_n 2, 1) := by decide +kernel
theorem dX6_move_27 : decode cX6_move 27 = .ok (.iload_n 3, 1) := by decide +kernel
theorem dX6_move_28 : decode cX6_move 28 = .ok (.invokestatic 75, 3) := by decide +kernel
theorem dX6_move_31 : decode cX6_move 31 = .ok (.istore 4, 2) := by decide +kernel
theorem dX6_move_33 : decode cX6_move 33 = .ok (.aload_n 0, 1) := by decide +kernel
theorem dX6_move_34 : decode cX6_move 34 = .ok (.getfield 12, 3) := by decide +kernel
theorem dX6_move_37 : decode cX6_move 37 = .ok (.iload_n 1, 1) := by decide +kernel
theorem dX6_move_38 : decode cX6_move 38 = .ok (.iload 4, 2) := by decide +kernel
theorem dX6_move_40 : decode cX6_move 40 = .ok (.invokevirtual 129, 3) := by decide +kernel
theorem dX6_move_43 : decode cX6_move 43 = .ok (.ifCond .ne 10, 3) := by decide +kernel
theorem dX6_move_46 : decode cX6_move 46 = .ok (.aload_n 0, 1) := by decide +kernel
theorem dX6_move_47 : decode cX6_move 47 = .ok (.ldc 82, 2) := by decide +kernel
theorem dX6_move_49 : decode cX6_move 49 = .ok (.invokevirtual 71, 3) := by decide +kernel
theorem dX6_move_52 : decode cX6_move 52 = .ok (.ireturn, 1) := by decide +kernel
theorem dX6_move_53 : decode cX6_move 53 = .ok (.aload_n 0, 1) := by decide +kernel
theorem dX6_move_54 : decode cX6_move 54 = .ok (.getfield 12, 3) := by decide +kernel
theorem dX6_move_57 : decode cX6_move 57 = .ok (.aload_n 0, 1) := by decide +kernel
theorem dX6_move_58 : decode cX6_move 58 = .ok (.getfield 12, 3) := by decide +kernel
theorem dX6_move_61 : decode cX6_move 61 = .ok (.getfield 101, 3) := by decide +kernel
theorem dX6_move_64 : decode cX6_move 64 = .ok (.iload_n 1, 1) := by decide +kernel
theorem dX6_move_65 : decode cX6_move 65 = .ok (.iaload, 1) := by decide +kernel
theorem dX6_move_66 : decode cX6_move 66 = .ok (.iload 4, 2) := by decide +kernel
theorem dX6_move_68 : decode cX6_move 68 = .ok (.invokevirtual 132, 3) := by decide +kernel
theorem dX6_move_71 : decode cX6_move 71 = .ok (.istore 5, 2) := by decide +kernel
theorem dX6_move_73 : decode cX6_move 73 = .ok (.aload_n 0, 1) := by decide +kernel
theorem dX6_move_74 : decode cX6_move 74 = .ok (.getfield 12, 3) := by decide +kernel
theorem dX6_move_77 : decode cX6_move 77 = .ok (.getfield 101, 3) := by decide +kernel
theorem dX6_move_80 : decode cX6_move 80 = .ok (.iload_n 1, 1) := by decide +kernel
theorem dX6_move_81 : decode cX6_move 81 = .ok (.iload 4, 2) := by decide +kernel
theorem dX6_move_83 : decode cX6_move 83 = .ok (.iastore, 1) := by decide +kernel
theorem dX6_move_84 : decode cX6_move 84 = .ok (.iload 5, 2) := by decide +kernel
theorem dX6_move_86 : decode cX6_move 86 = .ok (.ireturn, 1) := by decide +kernel
set_option maxRecDepth 20000 in
theorem ggX6_wall_X6_isSide : GoodIn wsX6_wall wsX6_isSide := goodIn_r _ [9, 10, 11, 8, 12] (by decide +kernel) (by decide +kernel)
set_option maxRecDepth 20000 in
theorem gX6_wall_X6_isSide : GoodIn wsX6_wall (va_wsS RX6 135 yX6_isSide wsX6_isSide) := goodIn_app (goodIn_of _ (by decide +kernel)) ggX6_wall_X6_isSide
set_option maxRecDepth 20000 in
theorem ggX6_wall_X6_isBit : GoodIn wsX6_wall wsX6_isBit := goodIn_r _ [15, 10, 11, 8, 12] (by decide +kernel) (by decide +kernel)
set_option maxRecDepth 20000 in
theorem gX6_wall_X6_isBit : GoodIn wsX6_wall (va_wsS RX6 122 yX6_isBit wsX6_isBit) := goodIn_app (goodIn_of _ (by decide +kernel)) ggX6_wall_X6_isBit
set_option maxRecDepth 20000 in
theorem ggX6_wall_X6_finding : GoodIn wsX6_wall wsX6_finding := goodIn_r _ [19, 5, 20, 10, 11, 8, 12, 21, 22, 23, 24, 25, 26, 27, 28, 29] (by decide +kernel) (by decide +kernel)
set_option maxRecDepth 20000 in
theorem gX6_wall_X6_finding : GoodIn wsX6_wall (wsV RX6 71 RX6 yX6_finding wsX6_finding) := goodIn_app (goodIn_of _ (by decide +kernel)) ggX6_wall_X6_finding
theorem dX6_wall_0 : decode cX6_wall 0 = .ok (.iload_n 1, 1) := by decide +kernel
theorem dX6_wall_1 : decode cX6_wall 1 = .ok (.ifCond .ne 28, 3) := by decide +kernel
theorem dX6_wall_4 : decode cX6_wall 4 = .ok (.iload_n 2, 1) := by decide +kernel
theorem dX6_wall_5 : decode cX6_wall 5 = .ok (.invokestatic 135, 3) := by decide +kernel
theorem dX6_wall_8 : decode cX6_wall 8 = .ok (.ifCond .eq 21, 3) := by decide +kernel
theorem dX6_wall_11 : decode cX6_wall 11 = .ok (.aload_n 0, 1) := by decide +kernel
theorem dX6_wall_12 : decode cX6_wall 12 = .ok (.getfield 12, 3) := by decide +kernel
theorem dX6_wall_15 : decode cX6_wall 15 = .ok (.getfield 138, 3) := by decide +kernel
theorem dX6_wall_18 : decode cX6_wall 18 = .ok (.istore_n 3, 1) := by decide +kernel
theorem dX6_wall_19 : decode cX6_wall 19 = .ok (.aload_n 0, 1) := by decide +kernel
theorem dX6_wall_20 : decode cX6_wall 20 = .ok (.getfield 12, 3) := by decide +kernel
theorem dX6_wall_23 : decode cX6_wall 23 = .ok (.iload_n 2, 1) := by decide +kernel
theorem dX6_wall_24 : decode cX6_wall 24 = .ok (.putfield 138, 3) := by decide +kernel
theorem dX6_wall_27 : decode cX6_wall 27 = .ok (.iload_n 3, 1) := by decide +kernel
theorem dX6_wall_28 : decode cX6_wall 28 = .ok (.ireturn, 1) := by decide +kernel
theorem dX6_wall_29 : decode cX6_wall 29 = .ok (.iload_n 1, 1) := by decide +kernel
theorem dX6_wall_30 : decode cX6_wall 30 = .ok (.iconst 1, 1) := by decide +kernel
theorem dX6_wall_31 : decode cX6_wall 31 = .ok (.if_icmp .ne 28, 3) := by decide +kernel
theorem dX6_wall_34 : decode cX6_wall 34 = .ok (.iload_n 2, 1) := by decide +kernel
theorem dX6_wall_35 : decode cX6_wall 35 = .ok (.invokestatic 135, 3) := by decide +kernel
theorem dX6_wall_38 : decode cX6_wall 38 = .ok (.ifCond .eq 21, 3) := by decide +kernel
theorem dX6_wall_41 : decode cX6_wall 41 = .ok (.aload_n 0, 1) := by decide +kernel
theorem dX6_wall_42 : decode cX6_wall 42 = .ok (.getfield 12, 3) := by decide +kernel
theorem dX6_wall_45 : decode cX6_wall 45 = .ok (.getfield 141, 3) := by decide +kernel
theorem dX6_wall_48 : decode cX6_wall 48 = .ok (.istore_n 3, 1) := by decide +kernel
theorem dX6_wall_49 : decode cX6_wall 49 = .ok (.aload_n 0, 1) := by decide +kernel
theorem dX6_wall_50 : decode cX6_wall 50 = .ok (.getfield 12, 3) := by decide +kernel
theorem dX6_wall_53 : decode cX6_wall 53 = .ok (.iload_n 2, 1) := by decide +kernel
theorem dX6_wall_54 : decode cX6_wall 54 = .ok (.putfield 141, 3) := by decide +kernel
theorem dX6_wall_57 : decode cX6_wall 57 = .ok (.iload_n 3, 1) := by decide +kernel
theorem dX6_wall_58 : decode cX6_wall 58 = .ok (.ireturn, 1) := by decide +kernel
theorem dX6_wall_59 : decode cX6_wall 59 = .ok (.iload_n 1, 1) := by decide +kernel
theorem dX6_wall_60 : decode cX6_wall 60 = .ok (.iconst 2, 1) := by decide +kernel
theorem dX6_wall_61 : decode cX6_wall 61 = .ok (.if_icmp .ne 45, 3) := by decide +kernel
theorem dX6_wall_64 : decode cX6_wall 64 = .ok (.iload_n 2, 1) := by decide +kernel
theorem dX6_wall_65 : decode cX6_wall 65 = .ok (.invokestatic 122, 3) := by decide +kernel
theorem dX6_wall_68 : decode cX6_wall 68 = .ok (.ifCond .eq 38, 3) := by decide +kernel
theorem dX6_wall_71 : decode cX6_wall 71 = .ok (.aload_n 0, 1) := by decide +kernel
theorem dX6_wall_72 : decode cX6_wall 72 = .ok (.getfield 12, 3) := by decide +kernel
theorem dX6_wall_75 : decode cX6_wall 75 = .ok (.getfield 144, 3) := by decide +kernel
theorem dX6_wall_78 : decode cX6_wall 78 = .ok (.ifCond .eq 7, 3) := by decide +kernel
theorem dX6_wall_81 : decode cX6_wall 81 = .ok (.iconst 1, 1) := by decide +kernel
theorem dX6_wall_82 : decode cX6_wall 82 = .ok (.goto 4, 3) := by decide +kernel
theorem dX6_wall_85 : decode cX6_wall 85 = .ok (.iconst 0, 1) := by decide +kernel
theorem dX6_wall_86 : decode cX6_wall 86 = .ok (.istore_n 3, 1) := by decide +kernel
theorem dX6_wall_87 : decode cX6_wall 87 = .ok (.aload_n 0, 1) := by decide +kernel
theorem dX6_wall_88 : decode cX6_wall 88 = .ok (.getfield 12, 3) := by decide +kernel
theorem dX6_wall_91 : decode cX6_wall 91 = .ok (.iload_n 2, 1) := by decide +kernel
theorem dX6_wall_92 : decode cX6_wall 92 = .ok (.iconst 1, 1) := by decide +kernel
theorem dX6_wall_93 : decode cX6_wall 93 = .ok (.if_icmp .ne 7, 3) := by decide +kernel
theorem dX6_wall_96 : decode cX6_wall 96 = .ok (.iconst 1, 1) := by decide +kernel
theorem dX6_wall_97 : decode cX6_wall 97 = .ok (.goto 4, 3) := by decide +kernel
theorem dX6_wall_100 : decode cX6_wall 100 = .ok (.iconst 0, 1) := by decide +kernel
theorem dX6_wall_101 : decode cX6_wall 101 = .ok (.putfield 144, 3) := by decide +kernel
theorem dX6_wall_104 : decode cX6_wall 104 = .ok (.iload_n 3, 1) := by decide +kernel
theorem dX6_wall_105 : decode cX6_wall 105 = .ok (.ireturn, 1) := by decide +kernel
theorem dX6_wall_106 : decode cX6_wall 106 = .ok (.aload_n 0, 1) := by decide +kernel
theorem dX6_wall_107 : decode cX6_wall 107 = .ok (.ldc 70, 2) := by decide +kernel
theorem dX6_wall_109 : decode cX6_wall 109 = .ok (.invokevirtual 71, 3) := by decide +kernel
theorem dX6_wall_112 : decode cX6_wall 112 = .ok (.ireturn, 1) := by decide +kernel
set_option maxRecDepth 20000 in
theorem ggX6_on_X6_isYard : GoodIn wsX6_on wsX6_isYard := goodIn_r _ [7, 8, 9, 6, 10, 11, 12, 13] (by decide +kernel) (by decide +kernel)
set_option maxRecDepth 20000 in
theorem gX6_on_X6_isYard : GoodIn wsX6_on (va_wsS RX6 66 yX6_isYard wsX6_isYard) := goodIn_app (goodIn_of _ (by decide +kernel)) ggX6_on_X6_isYard
set_option maxRecDepth 20000 in
theorem ggX6_on_X6_finding : GoodIn wsX6_on wsX6_finding := goodIn_r _ [17, 1, 18, 11, 12, 6, 13, 29, 30, 31, 32, 33, 34, 35, 36, 37] (by decide +kernel) (by decide +kernel)
set_option maxRecDepth 20000 in
theorem gX6_on_X6_finding : GoodIn wsX6_on (wsV RX6 71 RX6 yX6_finding wsX6_finding) := goodIn_app (goodIn_of _ (by decide +kernel)) ggX6_on_X6_finding
set_option maxRecDepth 20000 in
theorem ggX6_on_X6_yardOf : GoodIn wsX6_on wsX6_yardOf := goodIn_r _ [21] (by decide +kernel) (by decide +kernel)
set_option maxRecDepth 20000 in
theorem gX6_on_X6_yardOf : GoodIn wsX6_on (va_wsS RX6 75 yX6_yardOf wsX6_yardOf) := goodIn_app (goodIn_of _ (by decide +kernel)) ggX6_on_X6_yardOf
set_option maxRecDepth 20000 in
theorem ggX6_on_X0_tentOn : GoodIn wsX6_on wsX0_tentOn := goodIn_r _ [26, 27, 28, 38, 39, 40, 41, 42, 43, 44, 45, 46, 47] (by decide +kernel) (by decide +kernel)
set_option maxRecDepth 20000 in
theorem gX6_on_X0_tentOn : GoodIn wsX6_on (wsV RX6 79 RX0 yX0_tentOn wsX0_tentOn) := goodIn_app (goodIn_of _ (by decide +kernel)) ggX6_on_X0_tentOn
theorem dX6_on_0 : decode cX6_on 0 = .ok (.iload_n 1, 1) := by decide +kernel
theorem dX6_on_1 : decode cX6_on 1 = .ok (.iload_n 2, 1) := by decide +kernel
theorem dX6_on_2 : decode cX6_on 2 = .ok (.invokestatic 66, 3) := by decide +kernel
theorem dX6_on_5 : decode cX6_on 5 = .ok (.ifCond .ne 10, 3) := by decide +kernel
theorem dX6_on_8 : decode cX6_on 8 = .ok (.aload_n 0, 1) := by decide +kernel
theorem dX6_on_9 : decode cX6_on 9 = .ok (.ldc 70, 2) := by decide +kernel
theorem dX6_on_11 : decode cX6_on 11 = .ok (.invokevirtual 71, 3) := by decide +kernel
theorem dX6_on_14 : decode cX6_on 14 = .ok (.ireturn, 1) := by decide +kernel
theorem dX6_on_15 : decode cX6_on 15 = .ok (.aload_n 0, 1) := by decide +kernel
theorem dX6_on_16 : decode cX6_on 16 = .ok (.getfield 12, 3) := by decide +kernel
theorem dX6_on_19 : decode cX6_on 19 = .ok (.iload_n 1, 1) := by decide +kernel
theorem dX6_on_20 : decode cX6_on 20 = .ok (.iload_n 2, 1) := by decide +kernel
theorem dX6_on_21 : decode cX6_on 21 = .ok (.invokestatic 75, 3) := by decide +kernel
theorem dX6_on_24 : decode cX6_on 24 = .ok (.invokevirtual 79, 3) := by decide +kernel
theorem dX6_on_27 : decode cX6_on 27 = .ok (.istore_n 3, 1) := by decide +kernel
theorem dX6_on_28 : decode cX6_on 28 = .ok (.iload_n 3, 1) := by decide +kernel
theorem dX6_on_29 : decode cX6_on 29 = .ok (.iconst (-1), 1) := by decide +kernel
theorem dX6_on_30 : decode cX6_on 30 = .ok (.if_icmp .ne 12, 3) := by decide +kernel
theorem dX6_on_33 : decode cX6_on 33 = .ok (.aload_n 0, 1) := by decide +kernel
theorem dX6_on_34 : decode cX6_on 34 = .ok (.ldc 148, 2) := by decide +kernel
theorem dX6_on_36 : decode cX6_on 36 = .ok (.invokevirtual 71, 3) := by decide +kernel
theorem dX6_on_39 : decode cX6_on 39 = .ok (.goto 4, 3) := by decide +kernel
theorem dX6_on_42 : decode cX6_on 42 = .ok (.iload_n 3, 1) := by decide +kernel
theorem dX6_on_43 : decode cX6_on 43 = .ok (.ireturn, 1) := by decide +kernel
set_option maxRecDepth 20000 in
theorem ggX6_far_X0_has : GoodIn wsX6_far wsX0_has := goodIn_r _ [8, 9, 39, 40, 41, 42, 43, 44, 45, 46, 47, 48] (by decide +kernel) (by decide +kernel)
set_option maxRecDepth 20000 in
theorem gX6_far_X0_has : GoodIn wsX6_far (wsV RX6 92 RX0 yX0_has wsX0_has) := goodIn_app (goodIn_of _ (by decide +kernel)) ggX6_far_X0_has
set_option maxRecDepth 20000 in
theorem ggX6_far_X6_finding : GoodIn wsX6_far wsX6_finding := goodIn_r _ [14, 2, 15, 16, 17, 13, 18, 30, 31, 32, 33, 34, 35, 36, 37, 38] (by decide +kernel) (by decide +kernel)
set_option maxRecDepth 20000 in
theorem gX6_far_X6_finding : GoodIn wsX6_far (wsV RX6 71 RX6 yX6_finding wsX6_finding) := goodIn_app (goodIn_of _ (by decide +kernel)) ggX6_far_X6_finding
set_option maxRecDepth 20000 in
theorem ggX6_far_X0_apart : GoodIn wsX6_far wsX0_apart := goodIn_r _ [22, 23, 24, 25, 26, 27, 28, 29, 39, 40, 41, 42, 43, 44, 45, 46, 47, 48] (by decide +kernel) (by decide +kernel)
set_option maxRecDepth 20000 in
theorem gX6_far_X0_apart : GoodIn wsX6_far (wsV RX6 132 RX0 yX0_apart wsX0_apart) := goodIn_app (goodIn_of _ (by decide +kernel)) ggX6_far_X0_apart
theorem dX6_far_0 : decode cX6_far 0 = .ok (.aload_n 0, 1) := by decide +kernel
theorem dX6_far_1 : decode cX6_far 1 = .ok (.getfield 12, 3) := by decide +kernel
theorem dX6_far_4 : decode cX6_far 4 = .ok (.iload_n 1, 1) := by decide +kernel
theorem dX6_far_5 : decode cX6_far 5 = .ok (.invokevirtual 92, 3) := by decide +kernel
theorem dX6_far_8 : decode cX6_far 8 = .ok (.ifCond .eq 14, 3) := by decide +kernel
theorem dX6_far_11 : decode cX6_far 11 = .ok (.aload_n 0, 1) := by decide +kernel
theorem dX6_far_12 : decode cX6_far 12 = .ok (.getfield 12, 3) := by decide +kernel
theorem dX6_far_15 : decode cX6_far 15 = .ok (.iload_n 2, 1) := by decide +kernel
theorem dX6_far_16 : decode cX6_far 16 = .ok (.invokevirtual 92, 3) := by decide +kernel
theorem dX6_far_19 : decode cX6_far 19 = .ok (.ifCond .ne 10, 3) := by decide +kernel
theorem dX6_far_22 : decode cX6_far 22 = .ok (.aload_n 0, 1) := by decide +kernel
theorem dX6_far_23 : decode cX6_far 23 = .ok (.ldc 70, 2) := by decide +kernel
theorem dX6_far_25 : decode cX6_far 25 = .ok (.invokevirtual 71, 3) := by decide +kernel
theorem dX6_far_28 : decode cX6_far 28 = .ok (.ireturn, 1) := by decide +kernel
theorem dX6_far_29 : decode cX6_far 29 = .ok (.aload_n 0, 1) := by decide +kernel
theorem dX6_far_30 : decode cX6_far 30 = .ok (.getfield 12, 3) := by decide +kernel
theorem dX6_far_33 : decode cX6_far 33 = .ok (.aload_n 0, 1) := by decide +kernel
theorem dX6_far_34 : decode cX6_far 34 = .ok (.getfield 12, 3) := by decide +kernel
theorem dX6_far_37 : decode cX6_far 37 = .ok (.getfield 101, 3) := by decide +kernel
theorem dX6_far_40 : decode cX6_far 40 = .ok (.iload_n 1, 1) := by decide +kernel
theorem dX6_far_41 : decode cX6_far 41 = .ok (.iaload, 1) := by decide +kernel
theorem dX6_far_42 : decode cX6_far 42 = .ok (.aload_n 0, 1) := by decide +kernel
theorem dX6_far_43 : decode cX6_far 43 = .ok (.getfield 12, 3) := by decide +kernel
theorem dX6_far_46 : decode cX6_far 46 = .ok (.getfield 101, 3) := by decide +kernel
theorem dX6_far_49 : decode cX6_far 49 = .ok (.iload_n 2, 1) := by decide +kernel
theorem dX6_far_50 : decode cX6_far 50 = .ok (.iaload, 1) := by decide +kernel
theorem dX6_far_51 : decode cX6_far 51 = .ok (.invokevirtual 132, 3) := by decide +kernel
theorem dX6_far_54 : decode cX6_far 54 = .ok (.ireturn, 1) := by decide +kernel
set_option maxRecDepth 20000 in
theorem ggX6_nearest_X0_has : GoodIn wsX6_nearest wsX0_has := goodIn_r _ [10, 11, 78, 79, 80, 81, 82, 83, 84, 85, 86, 87] (by decide +kernel) (by decide +kernel)
set_option maxRecDepth 20000 in
theorem gX6_nearest_X0_has : GoodIn wsX6_nearest (wsV RX6 92 RX0 yX0_has wsX0_has) := goodIn_app (goodIn_of _ (by decide +kernel)) ggX6_nearest_X0_has
set_option maxRecDepth 20000 in
theorem ggX6_nearest_X6_finding : GoodIn wsX6_nearest wsX6_finding := goodIn_r _ [16, 2, 17, 18, 19, 15, 20, 65, 66, 67, 68, 69, 70, 71, 72, 73] (by decide +kernel) (by decide +kernel)
set_option maxRecDepth 20000 in
theorem gX6_nearest_X6_finding : GoodIn wsX6_nearest (wsV RX6 71 RX6 yX6_finding wsX6_finding) := goodIn_app (goodIn_of _ (by decide +kernel)) ggX6_nearest_X6_finding
set_option maxRecDepth 20000 in
theorem ggX6_nearest_X1_listen : GoodIn wsX6_nearest wsX1_listen := goodIn_r _ [25, 26, 27, 28, 29, 30, 24, 31, 32, 33, 34, 35, 36, 9, 37, 38, 39, 40, 41, 42, 43, 44, 45, 46, 47, 48, 49, 50, 51, 52, 53, 54, 55, 56, 57, 58, 59, 60, 61, 62, 63, 64, 74, 75, 76, 77, 78, 79, 80, 81, 82, 83, 84, 85, 86, 87] (by decide +kernel) (by decide +kernel)
set_option maxRecDepth 20000 in
theorem gX6_nearest_X1_listen : GoodIn wsX6_nearest (wsV RX6 95 RX1 yX1_listen wsX1_listen) := goodIn_app (goodIn_of _ (by decide +kernel)) ggX6_nearest_X1_listen
theorem dX6_nearest_0 : decode cX6_nearest 0 = .ok (.aload_n 0, 1) := by decide +kernel
theorem dX6_nearest_1 : decode cX6_nearest 1 = .ok (.getfield 12, 3) := by decide +kernel
theorem dX6_nearest_4 : decode cX6_nearest 4 = .ok (.iload_n 1, 1) := by decide +kernel
theorem dX6_nearest_5 : decode cX6_nearest 5 = .ok (.invokevirtual 92, 3) := by decide +kernel
theorem dX6_nearest_8 : decode cX6_nearest 8 = .ok (.ifCond .ne 10, 3) := by decide +kernel
theorem dX6_nearest_11 : decode cX6_nearest 11 = .ok (.aload_n 0, 1) := by decide +kernel
theorem dX6_nearest_12 : decode cX6_nearest 12 = .ok (.ldc 70, 2) := by decide +kernel
theorem dX6_nearest_14 : decode cX6_nearest 14 = .ok (.invokevirtual 71, 3) := by decide +kernel
theorem dX6_nearest_17 : decode cX6_nearest 17 = .ok (.ireturn, 1) := by decide +kernel
theorem dX6_nearest_18 : decode cX6_nearest 18 = .ok (.aload_n 0, 1) := by decide +kernel
theorem dX6_nearest_19 : decode cX6_nearest 19 = .ok (.getfield 24, 3) := by decide +kernel
theorem dX6_nearest_22 : decode cX6_nearest 22 = .ok (.invokevirtual 95, 3) := by decide +kernel
theorem dX6_nearest_25 : decode cX6_nearest 25 = .ok (.aload_n 0, 1) := by decide +kernel
theorem dX6_nearest_26 : decode cX6_nearest 26 = .ok (.getfield 24, 3) := by decide +kernel
theorem dX6_nearest_29 : decode cX6_nearest 29 = .ok (.getfield 149, 3) := by decide +kernel
theorem dX6_nearest_32 : decode cX6_nearest 32 = .ok (.iload_n 1, 1) := by decide +kernel
theorem dX6_nearest_33 : decode cX6_nearest 33 = .ok (.iaload, 1) := by decide +kernel
theorem dX6_nearest_34 : decode cX6_nearest 34 = .ok (.iconst (-1), 1) := by decide +kernel
theorem dX6_nearest_35 : decode cX6_nearest 35 = .ok (.if_icmp .ne 12, 3) := by decide +kernel
theorem dX6_nearest_38 : decode cX6_nearest 38 = .ok (.aload_n 0, 1) := by decide +kernel
theorem dX6_nearest_39 : decode cX6_nearest 39 = .ok (.ldc 148, 2) := by decide +kernel
theorem dX6_nearest_41 : decode cX6_nearest 41 = .ok (.invokevirtual 71, 3) := by decide +kernel
theorem dX6_nearest_44 : decode cX6_nearest 44 = .ok (.goto 12, 3) := by decide +kernel
theorem dX6_nearest_47 : decode cX6_nearest 47 = .ok (.aload_n 0, 1) := by decide +kernel
theorem dX6_nearest_48 : decode cX6_nearest 48 = .ok (.getfield 24, 3) := by decide +kernel
theorem dX6_nearest_51 : decode cX6_nearest 51 = .ok (.getfield 149, 3) := by decide +kernel
theorem dX6_nearest_54 : decode cX6_nearest 54 = .ok (.iload_n 1, 1) := by decide +kernel
theorem dX6_nearest_55 : decode cX6_nearest 55 = .ok (.iaload, 1) := by decide +kernel
theorem dX6_nearest_56 : decode cX6_nearest 56 = .ok (.ireturn, 1) := by decide +kernel
set_option maxRecDepth 20000 in
theorem ggX6_hearing_X0_has : GoodIn wsX6_hearing wsX0_has := goodIn_r _ [8, 9, 76, 77, 78, 79, 80, 81, 82, 83, 84, 85] (by decide +kernel) (by decide +kernel)
set_option maxRecDepth 20000 in
theorem gX6_hearing_X0_has : GoodIn wsX6_hearing (wsV RX6 92 RX0 yX0_has wsX0_has) := goodIn_app (goodIn_of _ (by decide +kernel)) ggX6_hearing_X0_has
set_option maxRecDepth 20000 in
theorem ggX6_hearing_X6_finding : GoodIn wsX6_hearing wsX6_finding := goodIn_r _ [14, 2, 15, 16, 17, 13, 18, 67, 68, 69, 70, 71, 72, 73, 74, 75] (by decide +kernel) (by decide +kernel)
set_option maxRecDepth 20000 in
theorem gX6_hearing_X6_finding : GoodIn wsX6_hearing (wsV RX6 71 RX6 yX6_finding wsX6_finding) := goodIn_app (goodIn_of _ (by decide +kernel)) ggX6_hearing_X6_finding
set_option maxRecDepth 20000 in
theorem ggX6_hearing_X1_listen : GoodIn wsX6_hearing wsX1_listen := goodIn_r _ [23, 24, 25, 26, 27, 28, 22, 29, 30, 31, 32, 33, 34, 7, 35, 36, 37, 38, 39, 40, 41, 42, 43, 44, 45, 46, 47, 48, 49, 50, 51, 52, 53, 54, 55, 56, 57, 58, 59, 60, 61, 62, 86, 87, 88, 89, 76, 77, 78, 79, 80, 81, 82, 83, 84, 85] (by decide +kernel) (by decide +kernel)
set_option maxRecDepth 20000 in
theorem gX6_hearing_X1_listen : GoodIn wsX6_hearing (wsV RX6 95 RX1 yX1_listen wsX1_listen) := goodIn_app (goodIn_of _ (by decide +kernel)) ggX6_hearing_X1_listen
set_option maxRecDepth 20000 in
theorem ggX6_hearing_X1_hearersOf : GoodIn wsX6_hearing wsX1_hearersOf := goodIn_r _ [66, 24, 25, 48, 86, 87, 88, 89, 76, 77, 78, 79, 80, 81, 82, 83, 84, 85] (by decide +kernel) (by decide +kernel)
set_option maxRecDepth 20000 in
theorem gX6_hearing_X1_hearersOf : GoodIn wsX6_hearing (wsV RX6 152 RX1 yX1_hearersOf wsX1_hearersOf) := goodIn_app (goodIn_of _ (by decide +kernel)) ggX6_hearing_X1_hearersOf
theorem dX6_hearing_0 : decode cX6_hearing 0 = .ok (.aload_n 0, 1) := by decide +kernel
theorem dX6_hearing_1 : decode cX6_hearing 1 = .ok (.getfield 12, 3) := by decide +kernel
theorem dX6_hearing_4 : decode cX6_hearing 4 = .ok (.iload_n 1, 1) := by decide +kernel
theorem dX6_hearing_5 : decode cX6_hearing 5 = .ok (.invokevirtual 92, 3) := by decide +kernel
theorem dX6_hearing_8 : decode cX6_hearing 8 = .ok (.ifCond .ne 10, 3) := by decide +kernel
theorem dX6_hearing_11 : decode cX6_hearing 11 = .ok (.aload_n 0, 1) := by decide +kernel
theorem dX6_hearing_12 : decode cX6_hearing 12 = .ok (.ldc 70, 2) := by decide +kernel
theorem dX6_hearing_14 : decode cX6_hearing 14 = .ok (.invokevirtual 71, 3) := by decide +kernel
theorem dX6_hearing_17 : decode cX6_hearing 17 = .ok (.ireturn, 1) := by decide +kernel
theorem dX6_hearing_18 : decode cX6_hearing 18 = .ok (.aload_n 0, 1) := by decide +kernel
theorem dX6_hearing_19 : decode cX6_hearing 19 = .ok (.getfield 24, 3) := by decide +kernel
theorem dX6_hearing_22 : decode cX6_hearing 22 = .ok (.invokevirtual 95, 3) := by decide +kernel
theorem dX6_hearing_25 : decode cX6_hearing 25 = .ok (.aload_n 0, 1) := by decide +kernel
theorem dX6_hearing_26 : decode cX6_hearing 26 = .ok (.getfield 24, 3) := by decide +kernel
theorem dX6_hearing_29 : decode cX6_hearing 29 = .ok (.iload_n 1, 1) := by decide +kernel
theorem dX6_hearing_30 : decode cX6_hearing 30 = .ok (.invokevirtual 152, 3) := by decide +kernel
theorem dX6_hearing_33 : decode cX6_hearing 33 = .ok (.ireturn, 1) := by decide +kernel
set_option maxRecDepth 20000 in
theorem ggX6_days_X6_isFrom : GoodIn wsX6_days wsX6_isFrom := goodIn_r _ [12] (by decide +kernel) (by decide +kernel)
set_option maxRecDepth 20000 in
theorem gX6_days_X6_isFrom : GoodIn wsX6_days (va_wsS RX6 156 yX6_isFrom wsX6_isFrom) := goodIn_app (goodIn_of _ (by decide +kernel)) ggX6_days_X6_isFrom
set_option maxRecDepth 20000 in
theorem ggX6_days_X6_finding : GoodIn wsX6_days wsX6_finding := goodIn_r _ [16, 2, 17, 9, 10, 11, 12, 87, 88, 89, 90, 91, 92, 93, 94, 95] (by decide +kernel) (by decide +kernel)
set_option maxRecDepth 20000 in
theorem gX6_days_X6_finding : GoodIn wsX6_days (wsV RX6 71 RX6 yX6_finding wsX6_finding) := goodIn_app (goodIn_of _ (by decide +kernel)) ggX6_days_X6_finding
set_option maxRecDepth 20000 in
theorem ggX6_days_X1_listen : GoodIn wsX6_days wsX1_listen := goodIn_r _ [22, 23, 24, 25, 26, 27, 21, 28, 29, 30, 31, 32, 33, 34, 35, 36, 37, 38, 39, 40, 41, 42, 43, 44, 45, 46, 47, 48, 49, 50, 51, 52, 53, 54, 55, 56, 57, 58, 59, 60, 61, 62, 106, 107, 108, 109, 96, 97, 98, 99, 100, 101, 102, 103, 104, 105] (by decide +kernel) (by decide +kernel)
set_option maxRecDepth 20000 in
theorem gX6_days_X1_listen : GoodIn wsX6_days (wsV RX6 95 RX1 yX1_listen wsX1_listen) := goodIn_app (goodIn_of _ (by decide +kernel)) ggX6_days_X1_listen
set_option maxRecDepth 20000 in
theorem ggX6_days_X1_saidAfter : GoodIn wsX6_days wsX1_saidAfter := goodIn_r _ [66, 67, 68, 69, 21, 70, 23, 24, 71, 72, 73, 74, 58, 48, 47, 106, 107, 108, 109, 96, 97, 98, 99, 100, 101, 102, 103, 104, 105] (by decide +kernel) (by decide +kernel)
set_option maxRecDepth 20000 in
theorem gX6_days_X1_saidAfter : GoodIn wsX6_days (wsV RX6 164 RX1 yX1_saidAfter wsX1_saidAfter) := goodIn_app (goodIn_of _ (by decide +kernel)) ggX6_days_X1_saidAfter
set_option maxRecDepth 20000 in
theorem ggX6_days_X0_vote : GoodIn wsX6_days wsX0_vote := goodIn_r _ [78, 79, 80, 81, 82, 83, 84, 85, 86, 96, 97, 98, 99, 100, 101, 102, 103, 104, 105] (by decide +kernel) (by decide +kernel)
set_option maxRecDepth 20000 in
theorem gX6_days_X0_vote : GoodIn wsX6_days (wsV RX6 167 RX0 yX0_vote wsX0_vote) := goodIn_app (goodIn_of _ (by decide +kernel)) ggX6_days_X0_vote
theorem dX6_days_0 : decode cX6_days 0 = .ok (.iconst 1, 1) := by decide +kernel
theorem dX6_days_1 : decode cX6_days 1 = .ok (.iload_n 1, 1) := by decide +kernel
theorem dX6_days_2 : decode cX6_days 2 = .ok (.ldc 155, 2) := by decide +kernel
theorem dX6_days_4 : decode cX6_days 4 = .ok (.invokestatic 156, 3) := by decide +kernel
theorem dX6_days_7 : decode cX6_days 7 = .ok (.ifCond .ne 10, 3) := by decide +kernel
theorem dX6_days_10 : decode cX6_days 10 = .ok (.aload_n 0, 1) := by decide +kernel
theorem dX6_days_11 : decode cX6_days 11 = .ok (.ldc 70, 2) := by decide +kernel
theorem dX6_days_13 : decode cX6_days 13 = .ok (.invokevirtual 71, 3) := by decide +kernel
theorem dX6_days_16 : decode cX6_days 16 = .ok (.ireturn, 1) := by decide +kernel
theorem dX6_days_17 : decode cX6_days 17 = .ok (.iload_n 1, 1) := by decide +kernel
theorem dX6_days_18 : decode cX6_days 18 = .ok (.ldc 160, 2) := by decide +kernel
theorem dX6_days_20 : decode cX6_days 20 = .ok (.aload_n 0, 1) := by decide +kernel
theorem dX6_days_21 : decode cX6_days 21 = .ok (.getfield 12, 3) := by decide +kernel
theorem dX6_days_24 : decode cX6_days 24 = .ok (.getfield 161, 3) := by decide +kernel
theorem dX6_days_27 : decode cX6_days 27 = .ok (.isub, 1) := by decide +kernel
theorem dX6_days_28 : decode cX6_days 28 = .ok (.if_icmp .le 10, 3) := by decide +kernel
theorem dX6_days_31 : decode cX6_days 31 = .ok (.aload_n 0, 1) := by decide +kernel
theorem dX6_days_32 : decode cX6_days 32 = .ok (.ldc 82, 2) := by decide +kernel
theorem dX6_days_34 : decode cX6_days 34 = .ok (.invokevirtual 71, 3) := by decide +kernel
theorem dX6_days_37 : decode cX6_days 37 = .ok (.ireturn, 1) := by decide +kernel
theorem dX6_days_38 : decode cX6_days 38 = .ok (.aload_n 0, 1) := by decide +kernel
theorem dX6_days_39 : decode cX6_days 39 = .ok (.getfield 24, 3) := by decide +kernel
theorem dX6_days_42 : decode cX6_days 42 = .ok (.invokevirtual 95, 3) := by decide +kernel
theorem dX6_days_45 : decode cX6_days 45 = .ok (.aload_n 0, 1) := by decide +kernel
theorem dX6_days_46 : decode cX6_days 46 = .ok (.getfield 12, 3) := by decide +kernel
theorem dX6_days_49 : decode cX6_days 49 = .ok (.aload_n 0, 1) := by decide +kernel
theorem dX6_days_50 : decode cX6_days 50 = .ok (.getfield 24, 3) := by decide +kernel
theorem dX6_days_53 : decode cX6_days 53 = .ok (.aload_n 0, 1) := by decide +kernel
theorem dX6_days_54 : decode cX6_days 54 = .ok (.getfield 12, 3) := by decide +kernel
theorem dX6_days_57 : decode cX6_days 57 = .ok (.getfield 110, 3) := by decide +kernel
theorem dX6_days_60 : decode cX6_days 60 = .ok (.iload_n 1, 1) := by decide +kernel
theorem dX6_days_61 : decode cX6_days 61 = .ok (.invokevirtual 164, 3) := by decide +kernel
theorem dX6_days_64 : decode cX6_days 64 = .ok (.putfield 110, 3) := by decide +kernel
theorem dX6_days_67 : decode cX6_days 67 = .ok (.aload_n 0, 1) := by decide +kernel
theorem dX6_days_68 : decode cX6_days 68 = .ok (.getfield 12, 3) := by decide +kernel
theorem dX6_days_71 : decode cX6_days 71 = .ok (.dup, 1) := by decide +kernel
theorem dX6_days_72 : decode cX6_days 72 = .ok (.getfield 161, 3) := by decide +kernel
theorem dX6_days_75 : decode cX6_days 75 = .ok (.iload_n 1, 1) := by decide +kernel
theorem dX6_days_76 : decode cX6_days 76 = .ok (.iadd, 1) := by decide +kernel
theorem dX6_days_77 : decode cX6_days 77 = .ok (.putfield 161, 3) := by decide +kernel
theorem dX6_days_80 : decode cX6_days 80 = .ok (.aload_n 0, 1) := by decide +kernel
theorem dX6_days_81 : decode cX6_days 81 = .ok (.getfield 12, 3) := by decide +kernel
theorem dX6_days_84 : decode cX6_days 84 = .ok (.invokevirtual 167, 3) := by decide +kernel
theorem dX6_days_87 : decode cX6_days 87 = .ok (.ireturn, 1) := by decide +kernel
set_option maxRecDepth 20000 in
theorem ggX6_now_X1_listen : GoodIn wsX6_now wsX1_listen := goodIn_r _ [10, 11, 12, 13, 14, 15, 9, 16, 17, 18, 19, 20, 21, 22, 23, 24, 25, 26, 27, 28, 29, 30, 31, 32, 33, 34, 35, 36, 37, 38, 39, 40, 41, 42, 43, 44, 45, 46, 47, 48, 49, 50, 125, 126, 127, 128, 115, 116, 117, 118, 119, 120, 121, 122, 123, 124] (by decide +kernel) (by decide +kernel)
set_option maxRecDepth 20000 in
theorem gX6_now_X1_listen : GoodIn wsX6_now (wsV RX6 95 RX1 yX1_listen wsX1_listen) := goodIn_app (goodIn_of _ (by decide +kernel)) ggX6_now_X1_listen
set_option maxRecDepth 20000 in
theorem ggX6_now_X0_vote : GoodIn wsX6_now wsX0_vote := goodIn_r _ [54, 55, 56, 57, 58, 59, 60, 61, 62, 115, 116, 117, 118, 119, 120, 121, 122, 123, 124] (by decide +kernel) (by decide +kernel)
set_option maxRecDepth 20000 in
theorem gX6_now_X0_vote : GoodIn wsX6_now (wsV RX6 167 RX0 yX0_vote wsX0_vote) := goodIn_app (goodIn_of _ (by decide +kernel)) ggX6_now_X0_vote
set_option maxRecDepth 20000 in
theorem ggX6_now_X1_countPairs : GoodIn wsX6_now wsX1_countPairs := goodIn_r _ [66, 67, 68, 69, 9, 70, 11, 12, 71, 72, 73, 74, 36, 75, 57, 58, 59, 60, 61, 62, 125, 126, 127, 128, 115, 116, 117, 118, 119, 120, 121, 122, 123, 124] (by decide +kernel) (by decide +kernel)
set_option maxRecDepth 20000 in
theorem gX6_now_X1_countPairs : GoodIn wsX6_now (wsV RX6 171 RX1 yX1_countPairs wsX1_countPairs) := goodIn_app (goodIn_of _ (by decide +kernel)) ggX6_now_X1_countPairs
set_option maxRecDepth 20000 in
theorem ggX6_now_X1_ofPairs : GoodIn wsX6_now wsX1_ofPairs := goodIn_r _ [70, 11, 12, 71, 72, 73, 9, 74, 36, 125, 126, 127, 128, 115, 116, 117, 118, 119, 120, 121, 122, 123, 124] (by decide +kernel) (by decide +kernel)
set_option maxRecDepth 20000 in
theorem gX6_now_X1_ofPairs : GoodIn wsX6_now (wsV RX6 174 RX1 yX1_ofPairs wsX1_ofPairs) := goodIn_app (goodIn_of _ (by decide +kernel)) ggX6_now_X1_ofPairs
set_option maxRecDepth 20000 in
theorem ggX6_now_X1_unheard : GoodIn wsX6_now wsX1_unheard := goodIn_r _ [80, 11, 12, 36, 81, 82, 83, 22, 84, 85, 125, 126, 127, 128, 115, 116, 117, 118, 119, 120, 121, 122, 123, 124] (by decide +kernel) (by decide +kernel)
set_option maxRecDepth 20000 in
theorem gX6_now_X1_unheard : GoodIn wsX6_now (wsV RX6 177 RX1 yX1_unheard wsX1_unheard) := goodIn_app (goodIn_of _ (by decide +kernel)) ggX6_now_X1_unheard
set_option maxRecDepth 20000 in
theorem ggX6_now_X1_longestLine : GoodIn wsX6_now wsX1_longestLine := goodIn_r _ [89, 11, 12, 90, 91, 28, 92, 93, 94, 95, 9, 96, 36, 71, 72, 73, 74, 125, 126, 127, 128, 115, 116, 117, 118, 119, 120, 121, 122, 123, 124] (by decide +kernel) (by decide +kernel)
set_option maxRecDepth 20000 in
theorem gX6_now_X1_longestLine : GoodIn wsX6_now (wsV RX6 180 RX1 yX1_longestLine wsX1_longestLine) := goodIn_app (goodIn_of _ (by decide +kernel)) ggX6_now_X1_longestLine
set_option maxRecDepth 20000 in
theorem ggX6_now_X6_finding : GoodIn wsX6_now wsX6_finding := goodIn_r _ [101, 5, 102, 103, 104, 100, 105, 106, 107, 108, 109, 110, 111, 112, 113, 114] (by decide +kernel) (by decide +kernel)
set_option maxRecDepth 20000 in
theorem gX6_now_X6_finding : GoodIn wsX6_now (wsV RX6 71 RX6 yX6_finding wsX6_finding) := goodIn_app (goodIn_of _ (by decide +kernel)) ggX6_now_X6_finding
theorem dX6_now_0 : decode cX6_now 0 = .ok (.aload_n 0, 1) := by decide +kernel
theorem dX6_now_1 : decode cX6_now 1 = .ok (.getfield 24, 3) := by decide +kernel
theorem dX6_now_4 : decode cX6_now 4 = .ok (.invokevirtual 95, 3) := by decide +kernel
theorem dX6_now_7 : decode cX6_now 7 = .ok (.iload_n 1, 1) := by decide +kernel
theorem dX6_now_8 : decode cX6_now 8 = .ok (.tableswitch 100 0 6 #[44, 52, 60, 68, 76, 84, 92], 44) := by decide +kernel
theorem dX6_now_52 : decode cX6_now 52 = .ok (.aload_n 0, 1) := by decide +kernel
theorem dX6_now_53 : decode cX6_now 53 = .ok (.getfield 12, 3) := by decide +kernel
theorem dX6_now_56 : decode cX6_now 56 = .ok (.getfield 161, 3) := by decide +kernel
theorem dX6_now_59 : decode cX6_now 59 = .ok (.ireturn, 1) := by decide +kernel
theorem dX6_now_60 : decode cX6_now 60 = .ok (.aload_n 0, 1) := by decide +kernel
theorem dX6_now_61 : decode cX6_now 61 = .ok (.getfield 12, 3) := by decide +kernel
theorem dX6_now_64 : decode cX6_now 64 = .ok (.getfield 110, 3) := by decide +kernel
theorem dX6_now_67 : decode cX6_now 67 = .ok (.ireturn, 1) := by decide +kernel
theorem dX6_now_68 : decode cX6_now 68 = .ok (.aload_n 0, 1) := by decide +kernel
theorem dX6_now_69 : decode cX6_now 69 = .ok (.getfield 12, 3) := by decide +kernel
theorem dX6_now_72 : decode cX6_now 72 = .ok (.invokevirtual 167, 3) := by decide +kernel
theorem dX6_now_75 : decode cX6_now 75 = .ok (.ireturn, 1) := by decide +kernel
theorem dX6_now_76 : decode cX6_now 76 = .ok (.aload_n 0, 1) := by decide +kernel
theorem dX6_now_77 : decode cX6_now 77 = .ok (.getfield 24, 3) := by decide +kernel
theorem dX6_now_80 : decode cX6_now 80 = .ok (.invokevirtual 171, 3) := by decide +kernel
theorem dX6_now_83 : decode cX6_now 83 = .ok (.ireturn, 1) := by decide +kernel
theorem dX6_now_84 : decode cX6_now 84 = .ok (.aload_n 0, 1) := by decide +kernel
theorem dX6_now_85 : decode cX6_now 85 = .ok (.getfield 24, 3) := by decide +kernel
theorem dX6_now_88 : decode cX6_now 88 = .ok (.invokevirtual 174, 3) := by decide +kernel
theorem dX6_now_91 : decode cX6_now 91 = .ok (.ireturn, 1) := by decide +kernel
theorem dX6_now_92 : decode cX6_now 92 = .ok (.aload_n 0, 1) := by decide +kernel
theorem dX6_now_93 : decode cX6_now 93 = .ok (.getfield 24, 3) := by decide +kernel
theorem dX6_now_96 : decode cX6_now 96 = .ok (.invokevirtual 177, 3) := by decide +kernel
theorem dX6_now_99 : decode cX6_now 99 = .ok (.ireturn, 1) := by decide +kernel
theorem dX6_now_100 : decode cX6_now 100 = .ok (.aload_n 0, 1) := by decide +kernel
theorem dX6_now_101 : decode cX6_now 101 = .ok (.getfield 24, 3) := by decide +kernel
theorem dX6_now_104 : decode cX6_now 104 = .ok (.invokevirtual 180, 3) := by decide +kernel
theorem dX6_now_107 : decode cX6_now 107 = .ok (.ireturn, 1) := by decide +kernel
theorem dX6_now_108 : decode cX6_now 108 = .ok (.aload_n 0, 1) := by decide +kernel
theorem dX6_now_109 : decode cX6_now 109 = .ok (.ldc 70, 2) := by decide +kernel
theorem dX6_now_111 : decode cX6_now 111 = .ok (.invokevirtual 71, 3) := by decide +kernel
theorem dX6_now_114 : decode cX6_now 114 = .ok (.ireturn, 1) := by decide +kernel
set_option maxRecDepth 20000 in
theorem ggX6_says_X0_has : GoodIn wsX6_says wsX0_has := goodIn_r _ [10, 11, 86, 87, 88, 89, 90, 91, 92, 93, 94, 95] (by decide +kernel) (by decide +kernel)
set_option maxRecDepth 20000 in
theorem gX6_says_X0_has : GoodIn wsX6_says (wsV RX6 92 RX0 yX0_has wsX0_has) := goodIn_app (goodIn_of _ (by decide +kernel)) ggX6_says_X0_has
set_option maxRecDepth 20000 in
theorem ggX6_says_X6_isFrom : GoodIn wsX6_says wsX6_isFrom := goodIn_r _ [15] (by decide +kernel) (by decide +kernel)
set_option maxRecDepth 20000 in
theorem gX6_says_X6_isFrom : GoodIn wsX6_says (va_wsS RX6 156 yX6_isFrom wsX6_isFrom) := goodIn_app (goodIn_of _ (by decide +kernel)) ggX6_says_X6_isFrom
set_option maxRecDepth 20000 in
theorem ggX6_says_X6_finding : GoodIn wsX6_says wsX6_finding := goodIn_r _ [19, 3, 20, 12, 13, 14, 15, 77, 78, 79, 80, 81, 82, 83, 84, 85] (by decide +kernel) (by decide +kernel)
set_option maxRecDepth 20000 in
theorem gX6_says_X6_finding : GoodIn wsX6_says (wsV RX6 71 RX6 yX6_finding wsX6_finding) := goodIn_app (goodIn_of _ (by decide +kernel)) ggX6_says_X6_finding
set_option maxRecDepth 20000 in
theorem ggX6_says_X1_listen : GoodIn wsX6_says wsX1_listen := goodIn_r _ [25, 26, 27, 28, 29, 30, 24, 31, 32, 33, 34, 35, 36, 9, 37, 38, 39, 40, 41, 42, 43, 44, 45, 46, 47, 48, 49, 50, 51, 52, 53, 54, 55, 56, 57, 58, 59, 60, 61, 62, 63, 64, 96, 97, 98, 99, 86, 87, 88, 89, 90, 91, 92, 93, 94, 95] (by decide +kernel) (by decide +kernel)
set_option maxRecDepth 20000 in
theorem gX6_says_X1_listen : GoodIn wsX6_says (wsV RX6 95 RX1 yX1_listen wsX1_listen) := goodIn_app (goodIn_of _ (by decide +kernel)) ggX6_says_X1_listen
set_option maxRecDepth 20000 in
theorem ggX6_says_X1_saidAfter : GoodIn wsX6_says wsX1_saidAfter := goodIn_r _ [68, 69, 70, 71, 24, 72, 26, 27, 73, 74, 75, 76, 60, 50, 49, 96, 97, 98, 99, 86, 87, 88, 89, 90, 91, 92, 93, 94, 95] (by decide +kernel) (by decide +kernel)
set_option maxRecDepth 20000 in
theorem gX6_says_X1_saidAfter : GoodIn wsX6_says (wsV RX6 164 RX1 yX1_saidAfter wsX1_saidAfter) := goodIn_app (goodIn_of _ (by decide +kernel)) ggX6_says_X1_saidAfter
theorem dX6_says_0 : decode cX6_says 0 = .ok (.aload_n 0, 1) := by decide +kernel
theorem dX6_says_1 : decode cX6_says 1 = .ok (.getfield 12, 3) := by decide +kernel
theorem dX6_says_4 : decode cX6_says 4 = .ok (.iload_n 1, 1) := by decide +kernel
theorem dX6_says_5 : decode cX6_says 5 = .ok (.invokevirtual 92, 3) := by decide +kernel
theorem dX6_says_8 : decode cX6_says 8 = .ok (.ifCond .eq 13, 3) := by decide +kernel
theorem dX6_says_11 : decode cX6_says 11 = .ok (.iconst 0, 1) := by decide +kernel
theorem dX6_says_12 : decode cX6_says 12 = .ok (.iload_n 2, 1) := by decide +kernel
theorem dX6_says_13 : decode cX6_says 13 = .ok (.ldc 183, 2) := by decide +kernel
theorem dX6_says_15 : decode cX6_says 15 = .ok (.invokestatic 156, 3) := by decide +kernel
theorem dX6_says_18 : decode cX6_says 18 = .ok (.ifCond .ne 10, 3) := by decide +kernel
theorem dX6_says_21 : decode cX6_says 21 = .ok (.aload_n 0, 1) := by decide +kernel
theorem dX6_says_22 : decode cX6_says 22 = .ok (.ldc 70, 2) := by decide +kernel
theorem dX6_says_24 : decode cX6_says 24 = .ok (.invokevirtual 71, 3) := by decide +kernel
theorem dX6_says_27 : decode cX6_says 27 = .ok (.ireturn, 1) := by decide +kernel
theorem dX6_says_28 : decode cX6_says 28 = .ok (.aload_n 0, 1) := by decide +kernel
theorem dX6_says_29 : decode cX6_says 29 = .ok (.getfield 24, 3) := by decide +kernel
theorem dX6_says_32 : decode cX6_says 32 = .ok (.invokevirtual 95, 3) := by decide +kernel
theorem dX6_says_35 : decode cX6_says 35 = .ok (.aload_n 0, 1) := by decide +kernel
theorem dX6_says_36 : decode cX6_says 36 = .ok (.getfield 24, 3) := by decide +kernel
theorem dX6_says_39 : decode cX6_says 39 = .ok (.aload_n 0, 1) := by decide +kernel
theorem dX6_says_40 : decode cX6_says 40 = .ok (.getfield 12, 3) := by decide +kernel
theorem dX6_says_43 : decode cX6_says 43 = .ok (.getfield 110, 3) := by decide +kernel
theorem dX6_says_46 : decode cX6_says 46 = .ok (.iload_n 2, 1) := by decide +kernel
theorem dX6_says_47 : decode cX6_says 47 = .ok (.invokevirtual 164, 3) := by decide +kernel
theorem dX6_says_50 : decode cX6_says 50 = .ok (.iload_n 1, 1) := by decide +kernel
theorem dX6_says_51 : decode cX6_says 51 = .ok (.ishr, 1) := by decide +kernel
theorem dX6_says_52 : decode cX6_says 52 = .ok (.iconst 1, 1) := by decide +kernel
theorem dX6_says_53 : decode cX6_says 53 = .ok (.iand, 1) := by decide +kernel
theorem dX6_says_54 : decode cX6_says 54 = .ok (.ireturn, 1) := by decide +kernel
set_option maxRecDepth 20000 in
theorem ggX6_saying_X6_isFrom : GoodIn wsX6_saying wsX6_isFrom := goodIn_r _ [9] (by decide +kernel) (by decide +kernel)
set_option maxRecDepth 20000 in
theorem gX6_saying_X6_isFrom : GoodIn wsX6_saying (va_wsS RX6 156 yX6_isFrom wsX6_isFrom) := goodIn_app (goodIn_of _ (by decide +kernel)) ggX6_saying_X6_isFrom
set_option maxRecDepth 20000 in
theorem ggX6_saying_X6_finding : GoodIn wsX6_saying wsX6_finding := goodIn_r _ [13, 2, 14, 6, 7, 8, 9, 72, 73, 74, 75, 76, 77, 78, 79, 80] (by decide +kernel) (by decide +kernel)
set_option maxRecDepth 20000 in
theorem gX6_saying_X6_finding : GoodIn wsX6_saying (wsV RX6 71 RX6 yX6_finding wsX6_finding) := goodIn_app (goodIn_of _ (by decide +kernel)) ggX6_saying_X6_finding
set_option maxRecDepth 20000 in
theorem ggX6_saying_X1_listen : GoodIn wsX6_saying wsX1_listen := goodIn_r _ [19, 20, 21, 22, 23, 24, 18, 25, 26, 27, 28, 29, 30, 31, 32, 33, 34, 35, 36, 37, 38, 39, 40, 41, 42, 43, 44, 45, 46, 47, 48, 49, 50, 51, 52, 53, 54, 55, 56, 57, 58, 59, 91, 92, 93, 94, 81, 82, 83, 84, 85, 86, 87, 88, 89, 90] (by decide +kernel) (by decide +kernel)
set_option maxRecDepth 20000 in
theorem gX6_saying_X1_listen : GoodIn wsX6_saying (wsV RX6 95 RX1 yX1_listen wsX1_listen) := goodIn_app (goodIn_of _ (by decide +kernel)) ggX6_saying_X1_listen
set_option maxRecDepth 20000 in
theorem ggX6_saying_X1_saidAfter : GoodIn wsX6_saying wsX1_saidAfter := goodIn_r _ [63, 64, 65, 66, 18, 67, 20, 21, 68, 69, 70, 71, 55, 45, 44, 91, 92, 93, 94, 81, 82, 83, 84, 85, 86, 87, 88, 89, 90] (by decide +kernel) (by decide +kernel)
set_option maxRecDepth 20000 in
theorem gX6_saying_X1_saidAfter : GoodIn wsX6_saying (wsV RX6 164 RX1 yX1_saidAfter wsX1_saidAfter) := goodIn_app (goodIn_of _ (by decide +kernel)) ggX6_saying_X1_saidAfter
theorem dX6_saying_0 : decode cX6_saying 0 = .ok (.iconst 0, 1) := by decide +kernel
theorem dX6_saying_1 : decode cX6_saying 1 = .ok (.iload_n 1, 1) := by decide +kernel
theorem dX6_saying_2 : decode cX6_saying 2 = .ok (.ldc 183, 2) := by decide +kernel
theorem dX6_saying_4 : decode cX6_saying 4 = .ok (.invokestatic 156, 3) := by decide +kernel
theorem dX6_saying_7 : decode cX6_saying 7 = .ok (.ifCond .ne 10, 3) := by decide +kernel
theorem dX6_saying_10 : decode cX6_saying 10 = .ok (.aload_n 0, 1) := by decide +kernel
theorem dX6_saying_11 : decode cX6_saying 11 = .ok (.ldc 70, 2) := by decide +kernel
theorem dX6_saying_13 : decode cX6_saying 13 = .ok (.invokevirtual 71, 3) := by decide +kernel
theorem dX6_saying_16 : decode cX6_saying 16 = .ok (.ireturn, 1) := by decide +kernel
theorem dX6_saying_17 : decode cX6_saying 17 = .ok (.aload_n 0, 1) := by decide +kernel
theorem dX6_saying_18 : decode cX6_saying 18 = .ok (.getfield 24, 3) := by decide +kernel
theorem dX6_saying_21 : decode cX6_saying 21 = .ok (.invokevirtual 95, 3) := by decide +kernel
theorem dX6_saying_24 : decode cX6_saying 24 = .ok (.aload_n 0, 1) := by decide +kernel
theorem dX6_saying_25 : decode cX6_saying 25 = .ok (.getfield 24, 3) := by decide +kernel
theorem dX6_saying_28 : decode cX6_saying 28 = .ok (.aload_n 0, 1) := by decide +kernel
theorem dX6_saying_29 : decode cX6_saying 29 = .ok (.getfield 12, 3) := by decide +kernel
theorem dX6_saying_32 : decode cX6_saying 32 = .ok (.getfield 110, 3) := by decide +kernel
theorem dX6_saying_35 : decode cX6_saying 35 = .ok (.iload_n 1, 1) := by decide +kernel
theorem dX6_saying_36 : decode cX6_saying 36 = .ok (.invokevirtual 164, 3) := by decide +kernel
theorem dX6_saying_39 : decode cX6_saying 39 = .ok (.ireturn, 1) := by decide +kernel
set_option maxRecDepth 20000 in
theorem ggX6_settles_X5_go : GoodIn wsX6_settles wsX5_go := goodIn_r _ [7, 8, 9, 10, 11, 12, 13, 14, 15, 16, 17, 18, 19, 20, 21, 22, 23, 24, 25, 26, 27, 28, 29, 30, 31, 32, 33, 34, 35, 36, 37, 38, 39, 40, 41, 42, 43, 44, 45, 46, 47, 48, 49, 50, 51, 52, 53, 54, 55, 56, 57, 58, 59, 60, 61, 62, 63, 64, 65, 66, 67, 68, 69, 70, 71, 72, 73, 74, 75, 76, 86, 87, 88, 89, 90, 91, 92, 93, 94, 95, 96, 97, 98, 99, 100, 101, 102, 103, 104] (by decide +kernel) (by decide +kernel)
set_option maxRecDepth 20000 in
theorem gX6_settles_X5_go : GoodIn wsX6_settles (wsV RX6 184 RX5 yX5_go wsX5_go) := goodIn_app (goodIn_of _ (by decide +kernel)) ggX6_settles_X5_go
theorem dX6_settles_0 : decode cX6_settles 0 = .ok (.aload_n 0, 1) := by decide +kernel
theorem dX6_settles_1 : decode cX6_settles 1 = .ok (.getfield 33, 3) := by decide +kernel
theorem dX6_settles_4 : decode cX6_settles 4 = .ok (.invokevirtual 184, 3) := by decide +kernel
theorem dX6_settles_7 : decode cX6_settles 7 = .ok (.aload_n 0, 1) := by decide +kernel
theorem dX6_settles_8 : decode cX6_settles 8 = .ok (.getfield 33, 3) := by decide +kernel
theorem dX6_settles_11 : decode cX6_settles 11 = .ok (.getfield 187, 3) := by decide +kernel
theorem dX6_settles_14 : decode cX6_settles 14 = .ok (.ireturn, 1) := by decide +kernel
set_option maxRecDepth 20000 in
theorem ggX6_circle_X5_go : GoodIn wsX6_circle wsX5_go := goodIn_r _ [7, 8, 9, 10, 11, 12, 13, 14, 15, 16, 17, 18, 19, 20, 21, 22, 23, 24, 25, 26, 27, 28, 29, 30, 31, 32, 33, 34, 35, 36, 37, 38, 39, 40, 41, 42, 43, 44, 45, 46, 47, 48, 49, 50, 51, 52, 53, 54, 55, 56, 57, 58, 59, 60, 61, 62, 63, 64, 65, 66, 67, 68, 69, 70, 71, 72, 73, 74, 75, 76, 86, 87, 88, 89, 90, 91, 92, 93, 94, 95, 96, 97, 98, 99, 100, 101, 102, 103, 104] (by decide +kernel) (by decide +kernel)
set_option maxRecDepth 20000 in
theorem gX6_circle_X5_go : GoodIn wsX6_circle (wsV RX6 184 RX5 yX5_go wsX5_go) := goodIn_app (goodIn_of _ (by decide +kernel)) ggX6_circle_X5_go
theorem dX6_circle_0 : decode cX6_circle 0 = .ok (.aload_n 0, 1) := by decide +kernel
theorem dX6_circle_1 : decode cX6_circle 1 = .ok (.getfield 33, 3) := by decide +kernel
theorem dX6_circle_4 : decode cX6_circle 4 = .ok (.invokevirtual 184, 3) := by decide +kernel
theorem dX6_circle_7 : decode cX6_circle 7 = .ok (.aload_n 0, 1) := by decide +kernel
theorem dX6_circle_8 : decode cX6_circle 8 = .ok (.getfield 33, 3) := by decide +kernel
theorem dX6_circle_11 : decode cX6_circle 11 = .ok (.getfield 190, 3) := by decide +kernel
theorem dX6_circle_14 : decode cX6_circle 14 = .ok (.ireturn, 1) := by decide +kernel
set_option maxRecDepth 20000 in
theorem ggX6_mind_X5_go : GoodIn wsX6_mind wsX5_go := goodIn_r _ [11, 12, 13, 14, 15, 16, 17, 18, 19, 20, 21, 22, 23, 24, 25, 26, 27, 28, 29, 30, 31, 32, 33, 34, 35, 36, 37, 38, 39, 40, 41, 42, 43, 44, 45, 46, 47, 48, 49, 50, 51, 52, 53, 54, 55, 56, 57, 58, 59, 60, 61, 62, 63, 64, 65, 66, 67, 68, 69, 70, 71, 72, 73, 74, 75, 76, 77, 78, 79, 80, 110, 111, 112, 113, 114, 115, 116, 117, 118, 100, 101, 102, 103, 104, 105, 106, 107, 108, 109] (by decide +kernel) (by decide +kernel)
set_option maxRecDepth 20000 in
theorem gX6_mind_X5_go : GoodIn wsX6_mind (wsV RX6 184 RX5 yX5_go wsX5_go) := goodIn_app (goodIn_of _ (by decide +kernel)) ggX6_mind_X5_go
set_option maxRecDepth 20000 in
theorem ggX6_mind_X6_finding : GoodIn wsX6_mind wsX6_finding := goodIn_r _ [85, 86, 87, 88, 89, 84, 90, 91, 92, 93, 94, 95, 96, 97, 98, 99] (by decide +kernel) (by decide +kernel)
set_option maxRecDepth 20000 in
theorem gX6_mind_X6_finding : GoodIn wsX6_mind (wsV RX6 71 RX6 yX6_finding wsX6_finding) := goodIn_app (goodIn_of _ (by decide +kernel)) ggX6_mind_X6_finding
theorem dX6_mind_0 : decode cX6_mind 0 = .ok (.aload_n 0, 1) := by decide +kernel
theorem dX6_mind_1 : decode cX6_mind 1 = .ok (.getfield 33, 3) := by decide +kernel
theorem dX6_mind_4 : decode cX6_mind 4 = .ok (.invokevirtual 184, 3) := by decide +kernel
theorem dX6_mind_7 : decode cX6_mind 7 = .ok (.aload_n 0, 1) := by decide +kernel
theorem dX6_mind_8 : decode cX6_mind 8 = .ok (.getfield 12, 3) := by decide +kernel
theorem dX6_mind_11 : decode cX6_mind 11 = .ok (.getfield 83, 3) := by decide +kernel
theorem dX6_mind_14 : decode cX6_mind 14 = .ok (.ifCond .eq 20, 3) := by decide +kernel
theorem dX6_mind_17 : decode cX6_mind 17 = .ok (.aload_n 0, 1) := by decide +kernel
theorem dX6_mind_18 : decode cX6_mind 18 = .ok (.getfield 33, 3) := by decide +kernel
theorem dX6_mind_21 : decode cX6_mind 21 = .ok (.getfield 193, 3) := by decide +kernel
theorem dX6_mind_24 : decode cX6_mind 24 = .ok (.aload_n 0, 1) := by decide +kernel
theorem dX6_mind_25 : decode cX6_mind 25 = .ok (.getfield 33, 3) := by decide +kernel
theorem dX6_mind_28 : decode cX6_mind 28 = .ok (.getfield 187, 3) := by decide +kernel
theorem dX6_mind_31 : decode cX6_mind 31 = .ok (.if_icmp .lt 10, 3) := by decide +kernel
theorem dX6_mind_34 : decode cX6_mind 34 = .ok (.aload_n 0, 1) := by decide +kernel
theorem dX6_mind_35 : decode cX6_mind 35 = .ok (.ldc 148, 2) := by decide +kernel
theorem dX6_mind_37 : decode cX6_mind 37 = .ok (.invokevirtual 71, 3) := by decide +kernel
theorem dX6_mind_40 : decode cX6_mind 40 = .ok (.ireturn, 1) := by decide +kernel
theorem dX6_mind_41 : decode cX6_mind 41 = .ok (.aload_n 0, 1) := by decide +kernel
theorem dX6_mind_42 : decode cX6_mind 42 = .ok (.getfield 33, 3) := by decide +kernel
theorem dX6_mind_45 : decode cX6_mind 45 = .ok (.getfield 193, 3) := by decide +kernel
theorem dX6_mind_48 : decode cX6_mind 48 = .ok (.iconst 1, 1) := by decide +kernel
theorem dX6_mind_49 : decode cX6_mind 49 = .ok (.iadd, 1) := by decide +kernel
theorem dX6_mind_50 : decode cX6_mind 50 = .ok (.ireturn, 1) := by decide +kernel
set_option maxRecDepth 20000 in
theorem ggX6_least_X6_isFrom : GoodIn wsX6_least wsX6_isFrom := goodIn_r _ [8] (by decide +kernel) (by decide +kernel)
set_option maxRecDepth 20000 in
theorem gX6_least_X6_isFrom : GoodIn wsX6_least (va_wsS RX6 156 yX6_isFrom wsX6_isFrom) := goodIn_app (goodIn_of _ (by decide +kernel)) ggX6_least_X6_isFrom
set_option maxRecDepth 20000 in
theorem ggX6_least_X6_finding : GoodIn wsX6_least wsX6_finding := goodIn_r _ [12, 1, 13, 5, 6, 7, 8, 139, 140, 141, 142, 143, 144, 145, 146, 147] (by decide +kernel) (by decide +kernel)
set_option maxRecDepth 20000 in
theorem gX6_least_X6_finding : GoodIn wsX6_least (wsV RX6 71 RX6 yX6_finding wsX6_finding) := goodIn_app (goodIn_of _ (by decide +kernel)) ggX6_least_X6_finding
set_option maxRecDepth 20000 in
theorem ggX6_least_X4_leastMove : GoodIn wsX6_least wsX4_leastMove := goodIn_r _ [18, 19, 20, 21, 22, 23, 24, 25, 26, 17, 27, 28, 29, 30, 31, 32, 33, 34, 35, 36, 37, 38, 39, 40, 41, 42, 43, 44, 45, 46, 47, 48, 49, 50, 51, 52, 53, 54, 55, 56, 57, 58, 59, 60, 61, 62, 63, 64, 65, 66, 67, 68, 69, 70, 71, 72, 73, 74, 75, 76, 77, 78, 79, 80, 81, 82, 83, 84, 85, 86, 87, 88, 89, 90, 91, 92, 93, 94, 95, 96, 97, 98, 99, 100, 101, 102, 103, 104, 105, 106, 107, 108, 109, 110, 111, 112, 113, 114, 115, 116, 117, 118, 119, 120, 121, 122, 123, 124, 125, 126, 127, 128, 129, 130, 131, 132, 133, 134, 135, 136, 137, 138, 148, 149, 150, 151, 152, 153, 154, 155, 156, 157, 158, 159, 160, 161, 162, 163, 164, 165] (by decide +kernel) (by decide +kernel)
set_option maxRecDepth 20000 in
theorem gX6_least_X4_leastMove : GoodIn wsX6_least (wsV RX6 196 RX4 yX4_leastMove wsX4_leastMove) := goodIn_app (goodIn_of _ (by decide +kernel)) ggX6_least_X4_leastMove
theorem dX6_least_0 : decode cX6_least 0 = .ok (.iconst 1, 1) := by decide +kernel
theorem dX6_least_1 : decode cX6_least 1 = .ok (.iload_n 1, 1) := by decide +kernel
theorem dX6_least_2 : decode cX6_least 2 = .ok (.bipush 60, 2) := by decide +kernel
theorem dX6_least_4 : decode cX6_least 4 = .ok (.invokestatic 156, 3) := by decide +kernel
theorem dX6_least_7 : decode cX6_least 7 = .ok (.ifCond .ne 10, 3) := by decide +kernel
theorem dX6_least_10 : decode cX6_least 10 = .ok (.aload_n 0, 1) := by decide +kernel
theorem dX6_least_11 : decode cX6_least 11 = .ok (.ldc 70, 2) := by decide +kernel
theorem dX6_least_13 : decode cX6_least 13 = .ok (.invokevirtual 71, 3) := by decide +kernel
theorem dX6_least_16 : decode cX6_least 16 = .ok (.ireturn, 1) := by decide +kernel
theorem dX6_least_17 : decode cX6_least 17 = .ok (.aload_n 0, 1) := by decide +kernel
theorem dX6_least_18 : decode cX6_least 18 = .ok (.getfield 40, 3) := by decide +kernel
theorem dX6_least_21 : decode cX6_least 21 = .ok (.iload_n 1, 1) := by decide +kernel
theorem dX6_least_22 : decode cX6_least 22 = .ok (.invokevirtual 196, 3) := by decide +kernel
theorem dX6_least_25 : decode cX6_least 25 = .ok (.istore_n 2, 1) := by decide +kernel
theorem dX6_least_26 : decode cX6_least 26 = .ok (.iload_n 2, 1) := by decide +kernel
theorem dX6_least_27 : decode cX6_least 27 = .ok (.iconst (-1), 1) := by decide +kernel
theorem dX6_least_28 : decode cX6_least 28 = .ok (.if_icmp .ne 12, 3) := by decide +kernel
theorem dX6_least_31 : decode cX6_least 31 = .ok (.aload_n 0, 1) := by decide +kernel
theorem dX6_least_32 : decode cX6_least 32 = .ok (.ldc 148, 2) := by decide +kernel
theorem dX6_least_34 : decode cX6_least 34 = .ok (.invokevirtual 71, 3) := by decide +kernel
theorem dX6_least_37 : decode cX6_least 37 = .ok (.goto 7, 3) := by decide +kernel
theorem dX6_least_40 : decode cX6_least 40 = .ok (.iload_n 2, 1) := by decide +kernel
theorem dX6_least_41 : decode cX6_least 41 = .ok (.ldc 155, 2) := by decide +kernel
theorem dX6_least_43 : decode cX6_least 43 = .ok (.idiv, 1) := by decide +kernel
theorem dX6_least_44 : decode cX6_least 44 = .ok (.ireturn, 1) := by decide +kernel
set_option maxRecDepth 20000 in
theorem ggX6_whom_X6_isFrom : GoodIn wsX6_whom wsX6_isFrom := goodIn_r _ [8] (by decide +kernel) (by decide +kernel)
set_option maxRecDepth 20000 in
theorem gX6_whom_X6_isFrom : GoodIn wsX6_whom (va_wsS RX6 156 yX6_isFrom wsX6_isFrom) := goodIn_app (goodIn_of _ (by decide +kernel)) ggX6_whom_X6_isFrom
set_option maxRecDepth 20000 in
theorem ggX6_whom_X6_finding : GoodIn wsX6_whom wsX6_finding := goodIn_r _ [12, 1, 13, 5, 6, 7, 8, 139, 140, 141, 142, 143, 144, 145, 146, 147] (by decide +kernel) (by decide +kernel)
set_option maxRecDepth 20000 in
theorem gX6_whom_X6_finding : GoodIn wsX6_whom (wsV RX6 71 RX6 yX6_finding wsX6_finding) := goodIn_app (goodIn_of _ (by decide +kernel)) ggX6_whom_X6_finding
set_option maxRecDepth 20000 in
theorem ggX6_whom_X4_leastMove : GoodIn wsX6_whom wsX4_leastMove := goodIn_r _ [18, 19, 20, 21, 22, 23, 24, 25, 26, 17, 27, 28, 29, 30, 31, 32, 33, 34, 35, 36, 37, 38, 39, 40, 41, 42, 43, 44, 45, 46, 47, 48, 49, 50, 51, 52, 53, 54, 55, 56, 57, 58, 59, 60, 61, 62, 63, 64, 65, 66, 67, 68, 69, 70, 71, 72, 73, 74, 75, 76, 77, 78, 79, 80, 81, 82, 83, 84, 85, 86, 87, 88, 89, 90, 91, 92, 93, 94, 95, 96, 97, 98, 99, 100, 101, 102, 103, 104, 105, 106, 107, 108, 109, 110, 111, 112, 113, 114, 115, 116, 117, 118, 119, 120, 121, 122, 123, 124, 125, 126, 127, 128, 129, 130, 131, 132, 133, 134, 135, 136, 137, 138, 148, 149, 150, 151, 152, 153, 154, 155, 156, 157, 158, 159, 160, 161, 162, 163, 164, 165] (by decide +kernel) (by decide +kernel)
set_option maxRecDepth 20000 in
theorem gX6_whom_X4_leastMove : GoodIn wsX6_whom (wsV RX6 196 RX4 yX4_leastMove wsX4_leastMove) := goodIn_app (goodIn_of _ (by decide +kernel)) ggX6_whom_X4_leastMove
theorem dX6_whom_0 : decode cX6_whom 0 = .ok (.iconst 1, 1) := by decide +kernel
theorem dX6_whom_1 : decode cX6_whom 1 = .ok (.iload_n 1, 1) := by decide +kernel
theorem dX6_whom_2 : decode cX6_whom 2 = .ok (.bipush 60, 2) := by decide +kernel
theorem dX6_whom_4 : decode cX6_whom 4 = .ok (.invokestatic 156, 3) := by decide +kernel
theorem dX6_whom_7 : decode cX6_whom 7 = .ok (.ifCond .ne 10, 3) := by decide +kernel
theorem dX6_whom_10 : decode cX6_whom 10 = .ok (.aload_n 0, 1) := by decide +kernel
theorem dX6_whom_11 : decode cX6_whom 11 = .ok (.ldc 70, 2) := by decide +kernel
theorem dX6_whom_13 : decode cX6_whom 13 = .ok (.invokevirtual 71, 3) := by decide +kernel
theorem dX6_whom_16 : decode cX6_whom 16 = .ok (.ireturn, 1) := by decide +kernel
theorem dX6_whom_17 : decode cX6_whom 17 = .ok (.aload_n 0, 1) := by decide +kernel
theorem dX6_whom_18 : decode cX6_whom 18 = .ok (.getfield 40, 3) := by decide +kernel
theorem dX6_whom_21 : decode cX6_whom 21 = .ok (.iload_n 1, 1) := by decide +kernel
theorem dX6_whom_22 : decode cX6_whom 22 = .ok (.invokevirtual 196, 3) := by decide +kernel
theorem dX6_whom_25 : decode cX6_whom 25 = .ok (.istore_n 2, 1) := by decide +kernel
theorem dX6_whom_26 : decode cX6_whom 26 = .ok (.iload_n 2, 1) := by decide +kernel
theorem dX6_whom_27 : decode cX6_whom 27 = .ok (.ldc 155, 2) := by decide +kernel
theorem dX6_whom_29 : decode cX6_whom 29 = .ok (.if_icmp .ge 12, 3) := by decide +kernel
theorem dX6_whom_32 : decode cX6_whom 32 = .ok (.aload_n 0, 1) := by decide +kernel
theorem dX6_whom_33 : decode cX6_whom 33 = .ok (.ldc 148, 2) := by decide +kernel
theorem dX6_whom_35 : decode cX6_whom 35 = .ok (.invokevirtual 71, 3) := by decide +kernel
theorem dX6_whom_38 : decode cX6_whom 38 = .ok (.goto 7, 3) := by decide +kernel
theorem dX6_whom_41 : decode cX6_whom 41 = .ok (.iload_n 2, 1) := by decide +kernel
theorem dX6_whom_42 : decode cX6_whom 42 = .ok (.ldc 155, 2) := by decide +kernel
theorem dX6_whom_44 : decode cX6_whom 44 = .ok (.irem, 1) := by decide +kernel
theorem dX6_whom_45 : decode cX6_whom 45 = .ok (.ireturn, 1) := by decide +kernel
set_option maxRecDepth 20000 in
theorem ggX6_place_X6_finding : GoodIn wsX6_place wsX6_finding := goodIn_r _ [9, 10, 11, 12, 13, 8, 14, 127, 128, 129, 130, 131, 132, 133, 134, 135] (by decide +kernel) (by decide +kernel)
set_option maxRecDepth 20000 in
theorem gX6_place_X6_finding : GoodIn wsX6_place (wsV RX6 71 RX6 yX6_finding wsX6_finding) := goodIn_app (goodIn_of _ (by decide +kernel)) ggX6_place_X6_finding
set_option maxRecDepth 20000 in
theorem ggX6_place_X4_bestPlace : GoodIn wsX6_place wsX4_bestPlace := goodIn_r _ [19, 20, 21, 22, 23, 24, 25, 26, 27, 28, 29, 30, 31, 32, 33, 34, 35, 36, 37, 38, 39, 40, 41, 42, 43, 44, 45, 46, 47, 48, 49, 50, 51, 52, 53, 54, 55, 56, 57, 58, 59, 60, 61, 62, 63, 64, 65, 66, 67, 68, 69, 70, 71, 72, 73, 74, 75, 76, 77, 78, 79, 80, 81, 82, 83, 84, 85, 86, 87, 88, 89, 90, 91, 92, 93, 94, 95, 96, 97, 98, 99, 100, 18, 101, 102, 103, 104, 105, 106, 107, 108, 109, 110, 111, 112, 113, 114, 115, 116, 117, 118, 119, 120, 121, 122, 123, 124, 125, 126, 146, 147, 148, 149, 136, 137, 138, 139, 140, 141, 142, 143, 144, 145, 150, 151, 152, 153] (by decide +kernel) (by decide +kernel)
set_option maxRecDepth 20000 in
theorem gX6_place_X4_bestPlace : GoodIn wsX6_place (wsV RX6 199 RX4 yX4_bestPlace wsX4_bestPlace) := goodIn_app (goodIn_of _ (by decide +kernel)) ggX6_place_X4_bestPlace
theorem dX6_place_0 : decode cX6_place 0 = .ok (.aload_n 0, 1) := by decide +kernel
theorem dX6_place_1 : decode cX6_place 1 = .ok (.getfield 12, 3) := by decide +kernel
theorem dX6_place_4 : decode cX6_place 4 = .ok (.getfield 83, 3) := by decide +kernel
theorem dX6_place_7 : decode cX6_place 7 = .ok (.bipush 10, 2) := by decide +kernel
theorem dX6_place_9 : decode cX6_place 9 = .ok (.if_icmp .lt 10, 3) := by decide +kernel
theorem dX6_place_12 : decode cX6_place 12 = .ok (.aload_n 0, 1) := by decide +kernel
theorem dX6_place_13 : decode cX6_place 13 = .ok (.ldc 82, 2) := by decide +kernel
theorem dX6_place_15 : decode cX6_place 15 = .ok (.invokevirtual 71, 3) := by decide +kernel
theorem dX6_place_18 : decode cX6_place 18 = .ok (.ireturn, 1) := by decide +kernel
theorem dX6_place_19 : decode cX6_place 19 = .ok (.aload_n 0, 1) := by decide +kernel
theorem dX6_place_20 : decode cX6_place 20 = .ok (.getfield 40, 3) := by decide +kernel
theorem dX6_place_23 : decode cX6_place 23 = .ok (.invokevirtual 199, 3) := by decide +kernel
theorem dX6_place_26 : decode cX6_place 26 = .ok (.sipush 1000, 3) := by decide +kernel
theorem dX6_place_29 : decode cX6_place 29 = .ok (.irem, 1) := by decide +kernel
theorem dX6_place_30 : decode cX6_place 30 = .ok (.ireturn, 1) := by decide +kernel
set_option maxRecDepth 20000 in
theorem ggX6_leads_X6_finding : GoodIn wsX6_leads wsX6_finding := goodIn_r _ [9, 10, 11, 12, 13, 8, 14, 127, 128, 129, 130, 131, 132, 133, 134, 135] (by decide +kernel) (by decide +kernel)
set_option maxRecDepth 20000 in
theorem gX6_leads_X6_finding : GoodIn wsX6_leads (wsV RX6 71 RX6 yX6_finding wsX6_finding) := goodIn_app (goodIn_of _ (by decide +kernel)) ggX6_leads_X6_finding
set_option maxRecDepth 20000 in
theorem ggX6_leads_X4_bestPlace : GoodIn wsX6_leads wsX4_bestPlace := goodIn_r _ [19, 20, 21, 22, 23, 24, 25, 26, 27, 28, 29, 30, 31, 32, 33, 34, 35, 36, 37, 38, 39, 40, 41, 42, 43, 44, 45, 46, 47, 48, 49, 50, 51, 52, 53, 54, 55, 56, 57, 58, 59, 60, 61, 62, 63, 64, 65, 66, 67, 68, 69, 70, 71, 72, 73, 74, 75, 76, 77, 78, 79, 80, 81, 82, 83, 84, 85, 86, 87, 88, 89, 90, 91, 92, 93, 94, 95, 96, 97, 98, 99, 100, 18, 101, 102, 103, 104, 105, 106, 107, 108, 109, 110, 111, 112, 113, 114, 115, 116, 117, 118, 119, 120, 121, 122, 123, 124, 125, 126, 146, 147, 148, 149, 136, 137, 138, 139, 140, 141, 142, 143, 144, 145, 150, 151, 152, 153] (by decide +kernel) (by decide +kernel)
set_option maxRecDepth 20000 in
theorem gX6_leads_X4_bestPlace : GoodIn wsX6_leads (wsV RX6 199 RX4 yX4_bestPlace wsX4_bestPlace) := goodIn_app (goodIn_of _ (by decide +kernel)) ggX6_leads_X4_bestPlace
theorem dX6_leads_0 : decode cX6_leads 0 = .ok (.aload_n 0, 1) := by decide +kernel
theorem dX6_leads_1 : decode cX6_leads 1 = .ok (.getfield 12, 3) := by decide +kernel
theorem dX6_leads_4 : decode cX6_leads 4 = .ok (.getfield 83, 3) := by decide +kernel
theorem dX6_leads_7 : decode cX6_leads 7 = .ok (.bipush 10, 2) := by decide +kernel
theorem dX6_leads_9 : decode cX6_leads 9 = .ok (.if_icmp .lt 10, 3) := by decide +kernel
theorem dX6_leads_12 : decode cX6_leads 12 = .ok (.aload_n 0, 1) := by decide +kernel
theorem dX6_leads_13 : decode cX6_leads 13 = .ok (.ldc 82, 2) := by decide +kernel
theorem dX6_leads_15 : decode cX6_leads 15 = .ok (.invokevirtual 71, 3) := by decide +kernel
theorem dX6_leads_18 : decode cX6_leads 18 = .ok (.ireturn, 1) := by decide +kernel
theorem dX6_leads_19 : decode cX6_leads 19 = .ok (.aload_n 0, 1) := by decide +kernel
theorem dX6_leads_20 : decode cX6_leads 20 = .ok (.getfield 40, 3) := by decide +kernel
theorem dX6_leads_23 : decode cX6_leads 23 = .ok (.invokevirtual 199, 3) := by decide +kernel
theorem dX6_leads_26 : decode cX6_leads 26 = .ok (.sipush 1000, 3) := by decide +kernel
theorem dX6_leads_29 : decode cX6_leads 29 = .ok (.idiv, 1) := by decide +kernel
theorem dX6_leads_30 : decode cX6_leads 30 = .ok (.ireturn, 1) := by decide +kernel
set_option maxRecDepth 20000 in
theorem ggX6_changed_X0_has : GoodIn wsX6_changed wsX0_has := goodIn_r _ [9, 10, 135, 136, 137, 138, 139, 140, 141, 142, 143, 144] (by decide +kernel) (by decide +kernel)
set_option maxRecDepth 20000 in
theorem gX6_changed_X0_has : GoodIn wsX6_changed (wsV RX6 92 RX0 yX0_has wsX0_has) := goodIn_app (goodIn_of _ (by decide +kernel)) ggX6_changed_X0_has
set_option maxRecDepth 20000 in
theorem ggX6_changed_X6_isYard : GoodIn wsX6_changed wsX6_isYard := goodIn_r _ [14, 15, 16, 13, 17, 18, 19, 20] (by decide +kernel) (by decide +kernel)
set_option maxRecDepth 20000 in
theorem gX6_changed_X6_isYard : GoodIn wsX6_changed (va_wsS RX6 66 yX6_isYard wsX6_isYard) := goodIn_app (goodIn_of _ (by decide +kernel)) ggX6_changed_X6_isYard
set_option maxRecDepth 20000 in
theorem ggX6_changed_X6_finding : GoodIn wsX6_changed wsX6_finding := goodIn_r _ [24, 2, 25, 18, 19, 13, 20, 126, 127, 128, 129, 130, 131, 132, 133, 134] (by decide +kernel) (by decide +kernel)
set_option maxRecDepth 20000 in
theorem gX6_changed_X6_finding : GoodIn wsX6_changed (wsV RX6 71 RX6 yX6_finding wsX6_finding) := goodIn_app (goodIn_of _ (by decide +kernel)) ggX6_changed_X6_finding
set_option maxRecDepth 20000 in
theorem ggX6_changed_X6_yardOf : GoodIn wsX6_changed wsX6_yardOf := goodIn_r _ [28] (by decide +kernel) (by decide +kernel)
set_option maxRecDepth 20000 in
theorem gX6_changed_X6_yardOf : GoodIn wsX6_changed (va_wsS RX6 75 yX6_yardOf wsX6_yardOf) := goodIn_app (goodIn_of _ (by decide +kernel)) ggX6_changed_X6_yardOf
set_option maxRecDepth 20000 in
theorem ggX6_changed_X0_mayStand : GoodIn wsX6_changed wsX0_mayStand := goodIn_r _ [32, 33, 34, 35, 8, 36, 10, 37, 135, 136, 137, 138, 139, 140, 141, 142, 143, 144] (by decide +kernel) (by decide +kernel)
set_option maxRecDepth 20000 in
theorem gX6_changed_X0_mayStand : GoodIn wsX6_changed (wsV RX6 129 RX0 yX0_mayStand wsX0_mayStand) := goodIn_app (goodIn_of _ (by decide +kernel)) ggX6_changed_X0_mayStand
set_option maxRecDepth 20000 in
theorem ggX6_changed_X4_changedBy : GoodIn wsX6_changed wsX4_changedBy := goodIn_r _ [42, 43, 44, 45, 41, 46, 47, 48, 49, 50, 51, 52, 53, 54, 55, 56, 57, 58, 8, 59, 60, 61, 37, 62, 10, 63, 64, 65, 66, 67, 68, 69, 70, 71, 72, 73, 74, 75, 76, 77, 78, 79, 80, 81, 82, 83, 84, 85, 86, 87, 88, 89, 90, 91, 92, 93, 94, 95, 96, 97, 98, 99, 100, 101, 102, 103, 104, 105, 106, 107, 108, 109, 110, 111, 112, 113, 114, 115, 6, 7, 9, 116, 117, 118, 119, 120, 121, 122, 123, 124, 125, 145, 146, 147, 148, 149, 150, 151, 152, 135, 136, 137, 138, 139, 140, 141, 142, 143, 144] (by decide +kernel) (by decide +kernel)
set_option maxRecDepth 20000 in
theorem gX6_changed_X4_changedBy : GoodIn wsX6_changed (wsV RX6 202 RX4 yX4_changedBy wsX4_changedBy) := goodIn_app (goodIn_of _ (by decide +kernel)) ggX6_changed_X4_changedBy
theorem dX6_changed_0 : decode cX6_changed 0 = .ok (.aload_n 0, 1) := by decide +kernel
theorem dX6_changed_1 : decode cX6_changed 1 = .ok (.getfield 12, 3) := by decide +kernel
theorem dX6_changed_4 : decode cX6_changed 4 = .ok (.iload_n 1, 1) := by decide +kernel
theorem dX6_changed_5 : decode cX6_changed 5 = .ok (.invokevirtual 92, 3) := by decide +kernel
theorem dX6_changed_8 : decode cX6_changed 8 = .ok (.ifCond .eq 11, 3) := by decide +kernel
theorem dX6_changed_11 : decode cX6_changed 11 = .ok (.iload_n 2, 1) := by decide +kernel
theorem dX6_changed_12 : decode cX6_changed 12 = .ok (.iload_n 3, 1) := by decide +kernel
theorem dX6_changed_13 : decode cX6_changed 13 = .ok (.invokestatic 66, 3) := by decide +kernel
theorem dX6_changed_16 : decode cX6_changed 16 = .ok (.ifCond .ne 10, 3) := by decide +kernel
theorem dX6_changed_19 : decode cX6_changed 19 = .ok (.aload_n 0, 1) := by decide +kernel
theorem dX6_changed_20 : decode cX6_changed 20 = .ok (.ldc 70, 2) := by decide +kernel
theorem dX6_changed_22 : decode cX6_changed 22 = .ok (.invokevirtual 71, 3) := by decide +kernel
theorem dX6_changed_25 : decode cX6_changed 25 = .ok (.ireturn, 1) := by decide +kernel
theorem dX6_changed_26 : decode cX6_changed 26 = .ok (.aload_n 0, 1) := by decide +kernel
theorem dX6_changed_27 : decode cX6_changed 27 = .ok (.getfield 12, 3) := by decide +kernel
theorem dX6_changed_30 : decode cX6_changed 30 = .ok (.iload_n 1, 1) := by decide +kernel
theorem dX6_changed_31 : decode cX6_changed 31 = .ok (.iload_n 2, 1) := by decide +kernel
theorem dX6_changed_32 : decode cX6_changed 32 = .ok (.iload_n 3, 1) := by decide +kernel
theorem dX6_changed_33 : decode cX6_changed 33 = .ok (.invokestatic 75, 3) := by decide +kernel
theorem dX6_changed_36 : decode cX6_changed 36 = .ok (.invokevirtual 129, 3) := by decide +kernel
theorem dX6_changed_39 : decode cX6_changed 39 = .ok (.ifCond .ne 10, 3) := by decide +kernel
theorem dX6_changed_42 : decode cX6_changed 42 = .ok (.aload_n 0, 1) := by decide +kernel
theorem dX6_changed_43 : decode cX6_changed 43 = .ok (.ldc 82, 2) := by decide +kernel
theorem dX6_changed_45 : decode cX6_changed 45 = .ok (.invokevirtual 71, 3) := by decide +kernel
theorem dX6_changed_48 : decode cX6_changed 48 = .ok (.ireturn, 1) := by decide +kernel
theorem dX6_changed_49 : decode cX6_changed 49 = .ok (.aload_n 0, 1) := by decide +kernel
theorem dX6_changed_50 : decode cX6_changed 50 = .ok (.getfield 40, 3) := by decide +kernel
theorem dX6_changed_53 : decode cX6_changed 53 = .ok (.iload_n 1, 1) := by decide +kernel
theorem dX6_changed_54 : decode cX6_changed 54 = .ok (.iload_n 2, 1) := by decide +kernel
theorem dX6_changed_55 : decode cX6_changed 55 = .ok (.iload_n 3, 1) := by decide +kernel
theorem dX6_changed_56 : decode cX6_changed 56 = .ok (.invokestatic 75, 3) := by decide +kernel
theorem dX6_changed_59 : decode cX6_changed 59 = .ok (.invokevirtual 202, 3) := by decide +kernel
theorem dX6_changed_62 : decode cX6_changed 62 = .ok (.ireturn, 1) := by decide +kernel
set_option maxRecDepth 20000 in
theorem ggX6_still_X0_has : GoodIn wsX6_still wsX0_has := goodIn_r _ [8, 9, 121, 122, 123, 124, 125, 126, 127, 128, 129, 130] (by decide +kernel) (by decide +kernel)
set_option maxRecDepth 20000 in
theorem gX6_still_X0_has : GoodIn wsX6_still (wsV RX6 92 RX0 yX0_has wsX0_has) := goodIn_app (goodIn_of _ (by decide +kernel)) ggX6_still_X0_has
set_option maxRecDepth 20000 in
theorem ggX6_still_X6_finding : GoodIn wsX6_still wsX6_finding := goodIn_r _ [14, 2, 15, 16, 17, 13, 18, 112, 113, 114, 115, 116, 117, 118, 119, 120] (by decide +kernel) (by decide +kernel)
set_option maxRecDepth 20000 in
theorem gX6_still_X6_finding : GoodIn wsX6_still (wsV RX6 71 RX6 yX6_finding wsX6_finding) := goodIn_app (goodIn_of _ (by decide +kernel)) ggX6_still_X6_finding
set_option maxRecDepth 20000 in
theorem ggX6_still_X4_stillYards : GoodIn wsX6_still wsX4_stillYards := goodIn_r _ [23, 24, 25, 26, 27, 22, 28, 29, 30, 31, 32, 33, 34, 35, 36, 37, 38, 39, 7, 40, 41, 42, 43, 44, 9, 45, 46, 47, 48, 49, 50, 51, 52, 53, 54, 55, 56, 57, 58, 59, 60, 61, 62, 63, 64, 65, 66, 67, 68, 69, 70, 71, 72, 73, 74, 75, 76, 77, 78, 79, 80, 81, 82, 83, 84, 85, 86, 87, 88, 89, 90, 91, 92, 93, 94, 95, 96, 97, 98, 99, 100, 101, 5, 6, 8, 102, 103, 104, 105, 106, 107, 108, 109, 110, 111, 131, 132, 133, 134, 135, 136, 137, 138, 121, 122, 123, 124, 125, 126, 127, 128, 129, 130] (by decide +kernel) (by decide +kernel)
set_option maxRecDepth 20000 in
theorem gX6_still_X4_stillYards : GoodIn wsX6_still (wsV RX6 205 RX4 yX4_stillYards wsX4_stillYards) := goodIn_app (goodIn_of _ (by decide +kernel)) ggX6_still_X4_stillYards
theorem dX6_still_0 : decode cX6_still 0 = .ok (.aload_n 0, 1) := by decide +kernel
theorem dX6_still_1 : decode cX6_still 1 = .ok (.getfield 12, 3) := by decide +kernel
theorem dX6_still_4 : decode cX6_still 4 = .ok (.iload_n 1, 1) := by decide +kernel
theorem dX6_still_5 : decode cX6_still 5 = .ok (.invokevirtual 92, 3) := by decide +kernel
theorem dX6_still_8 : decode cX6_still 8 = .ok (.ifCond .ne 10, 3) := by decide +kernel
theorem dX6_still_11 : decode cX6_still 11 = .ok (.aload_n 0, 1) := by decide +kernel
theorem dX6_still_12 : decode cX6_still 12 = .ok (.ldc 70, 2) := by decide +kernel
theorem dX6_still_14 : decode cX6_still 14 = .ok (.invokevirtual 71, 3) := by decide +kernel
theorem dX6_still_17 : decode cX6_still 17 = .ok (.ireturn, 1) := by decide +kernel
theorem dX6_still_18 : decode cX6_still 18 = .ok (.aload_n 0, 1) := by decide +kernel
theorem dX6_still_19 : decode cX6_still 19 = .ok (.getfield 40, 3) := by decide +kernel
theorem dX6_still_22 : decode cX6_still 22 = .ok (.iload_n 1, 1) := by decide +kernel
theorem dX6_still_23 : decode cX6_still 23 = .ok (.invokevirtual 205, 3) := by decide +kernel
theorem dX6_still_26 : decode cX6_still 26 = .ok (.ireturn, 1) := by decide +kernel
set_option maxRecDepth 20000 in
theorem ggX6_key_X6_finding : GoodIn wsX6_key wsX6_finding := goodIn_r _ [9, 10, 11, 12, 13, 8, 14, 105, 106, 107, 108, 109, 110, 111, 112, 113] (by decide +kernel) (by decide +kernel)
set_option maxRecDepth 20000 in
theorem gX6_key_X6_finding : GoodIn wsX6_key (wsV RX6 71 RX6 yX6_finding wsX6_finding) := goodIn_app (goodIn_of _ (by decide +kernel)) ggX6_key_X6_finding
set_option maxRecDepth 20000 in
theorem ggX6_key_X4_keyTent : GoodIn wsX6_key wsX4_keyTent := goodIn_r _ [19, 20, 21, 22, 23, 24, 25, 26, 27, 28, 29, 30, 31, 32, 33, 34, 35, 36, 37, 38, 39, 40, 41, 42, 43, 44, 45, 46, 47, 48, 49, 50, 51, 52, 53, 54, 55, 56, 57, 58, 59, 60, 61, 62, 63, 64, 65, 66, 67, 68, 69, 70, 71, 72, 73, 74, 75, 76, 77, 78, 79, 80, 81, 82, 83, 84, 85, 86, 87, 88, 89, 90, 91, 92, 93, 94, 95, 96, 97, 98, 99, 100, 101, 102, 103, 104, 124, 125, 126, 127, 114, 115, 116, 117, 118, 119, 120, 121, 122, 123, 128, 129, 130, 131] (by decide +kernel) (by decide +kernel)
set_option maxRecDepth 20000 in
theorem gX6_key_X4_keyTent : GoodIn wsX6_key (wsV RX6 208 RX4 yX4_keyTent wsX4_keyTent) := goodIn_app (goodIn_of _ (by decide +kernel)) ggX6_key_X4_keyTent
theorem dX6_key_0 : decode cX6_key 0 = .ok (.aload_n 0, 1) := by decide +kernel
theorem dX6_key_1 : decode cX6_key 1 = .ok (.getfield 12, 3) := by decide +kernel
theorem dX6_key_4 : decode cX6_key 4 = .ok (.getfield 83, 3) := by decide +kernel
theorem dX6_key_7 : decode cX6_key 7 = .ok (.ifCond .ne 10, 3) := by decide +kernel
theorem dX6_key_10 : decode cX6_key 10 = .ok (.aload_n 0, 1) := by decide +kernel
theorem dX6_key_11 : decode cX6_key 11 = .ok (.ldc 148, 2) := by decide +kernel
theorem dX6_key_13 : decode cX6_key 13 = .ok (.invokevirtual 71, 3) := by decide +kernel
theorem dX6_key_16 : decode cX6_key 16 = .ok (.ireturn, 1) := by decide +kernel
theorem dX6_key_17 : decode cX6_key 17 = .ok (.aload_n 0, 1) := by decide +kernel
theorem dX6_key_18 : decode cX6_key 18 = .ok (.getfield 40, 3) := by decide +kernel
theorem dX6_key_21 : decode cX6_key 21 = .ok (.invokevirtual 208, 3) := by decide +kernel
theorem dX6_key_24 : decode cX6_key 24 = .ok (.ireturn, 1) := by decide +kernel
set_option maxRecDepth 20000 in
theorem ggX6_leader_X6_finding : GoodIn wsX6_leader wsX6_finding := goodIn_r _ [9, 10, 11, 12, 13, 8, 14, 79, 80, 81, 82, 83, 84, 85, 86, 87] (by decide +kernel) (by decide +kernel)
set_option maxRecDepth 20000 in
theorem gX6_leader_X6_finding : GoodIn wsX6_leader (wsV RX6 71 RX6 yX6_finding wsX6_finding) := goodIn_app (goodIn_of _ (by decide +kernel)) ggX6_leader_X6_finding
set_option maxRecDepth 20000 in
theorem ggX6_leader_X1_listen : GoodIn wsX6_leader wsX1_listen := goodIn_r _ [19, 20, 21, 22, 23, 24, 18, 25, 26, 27, 28, 29, 30, 31, 32, 33, 34, 35, 36, 37, 38, 39, 40, 41, 42, 43, 44, 45, 46, 47, 48, 49, 50, 51, 52, 53, 54, 55, 56, 57, 58, 59, 98, 99, 100, 101, 88, 89, 90, 91, 92, 93, 94, 95, 96, 97] (by decide +kernel) (by decide +kernel)
set_option maxRecDepth 20000 in
theorem gX6_leader_X1_listen : GoodIn wsX6_leader (wsV RX6 95 RX1 yX1_listen wsX1_listen) := goodIn_app (goodIn_of _ (by decide +kernel)) ggX6_leader_X1_listen
set_option maxRecDepth 20000 in
theorem ggX6_leader_X1_mostFollowed : GoodIn wsX6_leader wsX1_mostFollowed := goodIn_r _ [63, 20, 21, 64, 65, 66, 18, 67, 68, 69, 70, 71, 45, 72, 73, 74, 75, 76, 77, 78, 98, 99, 100, 101, 88, 89, 90, 91, 92, 93, 94, 95, 96, 97] (by decide +kernel) (by decide +kernel)
set_option maxRecDepth 20000 in
theorem gX6_leader_X1_mostFollowed : GoodIn wsX6_leader (wsV RX6 211 RX1 yX1_mostFollowed wsX1_mostFollowed) := goodIn_app (goodIn_of _ (by decide +kernel)) ggX6_leader_X1_mostFollowed
theorem dX6_leader_0 : decode cX6_leader 0 = .ok (.aload_n 0, 1) := by decide +kernel
theorem dX6_leader_1 : decode cX6_leader 1 = .ok (.getfield 12, 3) := by decide +kernel
theorem dX6_leader_4 : decode cX6_leader 4 = .ok (.getfield 83, 3) := by decide +kernel
theorem dX6_leader_7 : decode cX6_leader 7 = .ok (.ifCond .ne 10, 3) := by decide +kernel
theorem dX6_leader_10 : decode cX6_leader 10 = .ok (.aload_n 0, 1) := by decide +kernel
theorem dX6_leader_11 : decode cX6_leader 11 = .ok (.ldc 148, 2) := by decide +kernel
theorem dX6_leader_13 : decode cX6_leader 13 = .ok (.invokevirtual 71, 3) := by decide +kernel
theorem dX6_leader_16 : decode cX6_leader 16 = .ok (.ireturn, 1) := by decide +kernel
theorem dX6_leader_17 : decode cX6_leader 17 = .ok (.aload_n 0, 1) := by decide +kernel
theorem dX6_leader_18 : decode cX6_leader 18 = .ok (.getfield 24, 3) := by decide +kernel
theorem dX6_leader_21 : decode cX6_leader 21 = .ok (.invokevirtual 95, 3) := by decide +kernel
theorem dX6_leader_24 : decode cX6_leader 24 = .ok (.aload_n 0, 1) := by decide +kernel
theorem dX6_leader_25 : decode cX6_leader 25 = .ok (.getfield 24, 3) := by decide +kernel
theorem dX6_leader_28 : decode cX6_leader 28 = .ok (.invokevirtual 211, 3) := by decide +kernel
theorem dX6_leader_31 : decode cX6_leader 31 = .ok (.ireturn, 1) := by decide +kernel
set_option maxRecDepth 20000 in
theorem ggX6_walled_X4_hearingOtherByWall : GoodIn wsX6_walled wsX4_hearingOtherByWall := goodIn_r _ [6, 7, 8, 9, 10, 11, 12, 13, 14, 15, 16, 17, 18, 19, 20, 21, 22, 23, 24, 25, 26, 27, 28, 29, 30, 31, 32, 33, 34, 35, 36, 37, 38, 39, 40, 41, 42, 43, 44, 45, 46, 47, 48, 49, 50, 51, 52, 53, 54, 55, 56, 57, 58, 59, 60, 61, 62, 63, 64, 65, 66, 67, 68, 69, 70, 71, 72, 73, 74, 75, 76, 5, 77, 78, 88, 89, 90, 91, 92, 93, 94, 95, 96, 97, 98, 99, 100, 101, 102, 103, 104, 105] (by decide +kernel) (by decide +kernel)
set_option maxRecDepth 20000 in
theorem gX6_walled_X4_hearingOtherByWall : GoodIn wsX6_walled (wsV RX6 214 RX4 yX4_hearingOtherByWall wsX4_hearingOtherByWall) := goodIn_app (goodIn_of _ (by decide +kernel)) ggX6_walled_X4_hearingOtherByWall
theorem dX6_walled_0 : decode cX6_walled 0 = .ok (.aload_n 0, 1) := by decide +kernel
theorem dX6_walled_1 : decode cX6_walled 1 = .ok (.getfield 40, 3) := by decide +kernel
theorem dX6_walled_4 : decode cX6_walled 4 = .ok (.invokevirtual 214, 3) := by decide +kernel
theorem dX6_walled_7 : decode cX6_walled 7 = .ok (.ireturn, 1) := by decide +kernel
set_option maxRecDepth 20000 in
theorem ggX6_law_X6_isFrom : GoodIn wsX6_law wsX6_isFrom := goodIn_r _ [6] (by decide +kernel) (by decide +kernel)
set_option maxRecDepth 20000 in
theorem gX6_law_X6_isFrom : GoodIn wsX6_law (va_wsS RX6 156 yX6_isFrom wsX6_isFrom) := goodIn_app (goodIn_of _ (by decide +kernel)) ggX6_law_X6_isFrom
set_option maxRecDepth 20000 in
theorem ggX6_law_X6_finding : GoodIn wsX6_law wsX6_finding := goodIn_r _ [10, 1, 11, 3, 4, 5, 6, 116, 117, 118, 119, 120, 121, 122, 123, 124] (by decide +kernel) (by decide +kernel)
set_option maxRecDepth 20000 in
theorem gX6_law_X6_finding : GoodIn wsX6_law (wsV RX6 71 RX6 yX6_finding wsX6_finding) := goodIn_app (goodIn_of _ (by decide +kernel)) ggX6_law_X6_finding
set_option maxRecDepth 20000 in
theorem ggX6_law_X4_bestKind : GoodIn wsX6_law wsX4_bestKind := goodIn_r _ [16, 17, 18, 19, 20, 21, 22, 15, 23, 24, 25, 26, 27, 28, 29, 30, 31, 32, 33, 34, 35, 36, 37, 38, 39, 40, 41, 42, 43, 44, 45, 46, 47, 48, 49, 50, 51, 52, 53, 54, 55, 56, 57, 58, 59, 60, 61, 62, 63, 64, 65, 66, 67, 68, 69, 70, 71, 72, 73, 74, 75, 76, 77, 78, 79, 80, 81, 82, 83, 84, 85, 86, 87, 88, 89, 90, 91, 92, 93, 94, 95, 96, 97, 98, 99, 100, 101, 102, 103, 104, 105, 106, 107, 108, 109, 110, 111, 112, 113, 114, 115, 125, 126, 127, 128, 129, 130, 131, 132, 133, 134, 135, 136, 137, 138, 139, 140, 141, 142] (by decide +kernel) (by decide +kernel)
set_option maxRecDepth 20000 in
theorem gX6_law_X4_bestKind : GoodIn wsX6_law (wsV RX6 217 RX4 yX4_bestKind wsX4_bestKind) := goodIn_app (goodIn_of _ (by decide +kernel)) ggX6_law_X4_bestKind
theorem dX6_law_0 : decode cX6_law 0 = .ok (.iconst 1, 1) := by decide +kernel
theorem dX6_law_1 : decode cX6_law 1 = .ok (.iload_n 1, 1) := by decide +kernel
theorem dX6_law_2 : decode cX6_law 2 = .ok (.bipush 60, 2) := by decide +kernel
theorem dX6_law_4 : decode cX6_law 4 = .ok (.invokestatic 156, 3) := by decide +kernel
theorem dX6_law_7 : decode cX6_law 7 = .ok (.ifCond .ne 10, 3) := by decide +kernel
theorem dX6_law_10 : decode cX6_law 10 = .ok (.aload_n 0, 1) := by decide +kernel
theorem dX6_law_11 : decode cX6_law 11 = .ok (.ldc 70, 2) := by decide +kernel
theorem dX6_law_13 : decode cX6_law 13 = .ok (.invokevirtual 71, 3) := by decide +kernel
theorem dX6_law_16 : decode cX6_law 16 = .ok (.ireturn, 1) := by decide +kernel
theorem dX6_law_17 : decode cX6_law 17 = .ok (.aload_n 0, 1) := by decide +kernel
theorem dX6_law_18 : decode cX6_law 18 = .ok (.getfield 40, 3) := by decide +kernel
theorem dX6_law_21 : decode cX6_law 21 = .ok (.iload_n 1, 1) := by decide +kernel
theorem dX6_law_22 : decode cX6_law 22 = .ok (.invokevirtual 217, 3) := by decide +kernel
theorem dX6_law_25 : decode cX6_law 25 = .ok (.ireturn, 1) := by decide +kernel
set_option maxRecDepth 20000 in
theorem ggX6_heard_X6_isFrom : GoodIn wsX6_heard wsX6_isFrom := goodIn_r _ [9] (by decide +kernel) (by decide +kernel)
set_option maxRecDepth 20000 in
theorem gX6_heard_X6_isFrom : GoodIn wsX6_heard (va_wsS RX6 156 yX6_isFrom wsX6_isFrom) := goodIn_app (goodIn_of _ (by decide +kernel)) ggX6_heard_X6_isFrom
set_option maxRecDepth 20000 in
theorem ggX6_heard_X6_finding : GoodIn wsX6_heard wsX6_finding := goodIn_r _ [13, 1, 14, 6, 7, 8, 9, 84, 85, 86, 87, 88, 89, 90, 91, 92] (by decide +kernel) (by decide +kernel)
set_option maxRecDepth 20000 in
theorem gX6_heard_X6_finding : GoodIn wsX6_heard (wsV RX6 71 RX6 yX6_finding wsX6_finding) := goodIn_app (goodIn_of _ (by decide +kernel)) ggX6_heard_X6_finding
set_option maxRecDepth 20000 in
theorem ggX6_heard_X1_listen : GoodIn wsX6_heard wsX1_listen := goodIn_r _ [19, 20, 21, 22, 23, 24, 18, 25, 26, 27, 28, 29, 30, 31, 32, 33, 34, 35, 36, 37, 38, 39, 40, 41, 42, 43, 44, 45, 46, 47, 48, 49, 50, 51, 52, 53, 54, 55, 56, 57, 58, 59, 103, 104, 105, 106, 93, 94, 95, 96, 97, 98, 99, 100, 101, 102] (by decide +kernel) (by decide +kernel)
set_option maxRecDepth 20000 in
theorem gX6_heard_X1_listen : GoodIn wsX6_heard (wsV RX6 95 RX1 yX1_listen wsX1_listen) := goodIn_app (goodIn_of _ (by decide +kernel)) ggX6_heard_X1_listen
set_option maxRecDepth 20000 in
theorem ggX6_heard_X1_mostHeard : GoodIn wsX6_heard wsX1_mostHeard := goodIn_r _ [63, 20, 64, 21, 65, 66, 67, 18, 68, 69, 70, 71, 72, 73, 74, 75, 76, 55, 45, 44, 77, 78, 79, 80, 81, 82, 83, 103, 104, 105, 106, 93, 94, 95, 96, 97, 98, 99, 100, 101, 102] (by decide +kernel) (by decide +kernel)
set_option maxRecDepth 20000 in
theorem gX6_heard_X1_mostHeard : GoodIn wsX6_heard (wsV RX6 220 RX1 yX1_mostHeard wsX1_mostHeard) := goodIn_app (goodIn_of _ (by decide +kernel)) ggX6_heard_X1_mostHeard
theorem dX6_heard_0 : decode cX6_heard 0 = .ok (.iconst 1, 1) := by decide +kernel
theorem dX6_heard_1 : decode cX6_heard 1 = .ok (.iload_n 1, 1) := by decide +kernel
theorem dX6_heard_2 : decode cX6_heard 2 = .ok (.bipush 60, 2) := by decide +kernel
theorem dX6_heard_4 : decode cX6_heard 4 = .ok (.invokestatic 156, 3) := by decide +kernel
theorem dX6_heard_7 : decode cX6_heard 7 = .ok (.ifCond .ne 10, 3) := by decide +kernel
theorem dX6_heard_10 : decode cX6_heard 10 = .ok (.aload_n 0, 1) := by decide +kernel
theorem dX6_heard_11 : decode cX6_heard 11 = .ok (.ldc 70, 2) := by decide +kernel
theorem dX6_heard_13 : decode cX6_heard 13 = .ok (.invokevirtual 71, 3) := by decide +kernel
theorem dX6_heard_16 : decode cX6_heard 16 = .ok (.ireturn, 1) := by decide +kernel
theorem dX6_heard_17 : decode cX6_heard 17 = .ok (.aload_n 0, 1) := by decide +kernel
theorem dX6_heard_18 : decode cX6_heard 18 = .ok (.getfield 12, 3) := by decide +kernel
theorem dX6_heard_21 : decode cX6_heard 21 = .ok (.getfield 83, 3) := by decide +kernel
theorem dX6_heard_24 : decode cX6_heard 24 = .ok (.ifCond .ne 10, 3) := by decide +kernel
theorem dX6_heard_27 : decode cX6_heard 27 = .ok (.aload_n 0, 1) := by decide +kernel
theorem dX6_heard_28 : decode cX6_heard 28 = .ok (.ldc 148, 2) := by decide +kernel
theorem dX6_heard_30 : decode cX6_heard 30 = .ok (.invokevirtual 71, 3) := by decide +kernel
theorem dX6_heard_33 : decode cX6_heard 33 = .ok (.ireturn, 1) := by decide +kernel
theorem dX6_heard_34 : decode cX6_heard 34 = .ok (.aload_n 0, 1) := by decide +kernel
theorem dX6_heard_35 : decode cX6_heard 35 = .ok (.getfield 24, 3) := by decide +kernel
theorem dX6_heard_38 : decode cX6_heard 38 = .ok (.invokevirtual 95, 3) := by decide +kernel
theorem dX6_heard_41 : decode cX6_heard 41 = .ok (.aload_n 0, 1) := by decide +kernel
theorem dX6_heard_42 : decode cX6_heard 42 = .ok (.getfield 24, 3) := by decide +kernel
theorem dX6_heard_45 : decode cX6_heard 45 = .ok (.iload_n 1, 1) := by decide +kernel
theorem dX6_heard_46 : decode cX6_heard 46 = .ok (.invokevirtual 220, 3) := by decide +kernel
theorem dX6_heard_49 : decode cX6_heard 49 = .ok (.ireturn, 1) := by decide +kernel
set_option maxRecDepth 20000 in
theorem ggX6_follows_X0_has : GoodIn wsX6_follows wsX0_has := goodIn_r _ [7, 8, 41, 42, 43, 44, 45, 46, 47, 48, 49, 50] (by decide +kernel) (by decide +kernel)
set_option maxRecDepth 20000 in
theorem gX6_follows_X0_has : GoodIn wsX6_follows (wsV RX6 92 RX0 yX0_has wsX0_has) := goodIn_app (goodIn_of _ (by decide +kernel)) ggX6_follows_X0_has
set_option maxRecDepth 20000 in
theorem ggX6_follows_X0_isSet : GoodIn wsX6_follows wsX0_isSet := goodIn_r _ [12, 13, 14, 15, 6, 16, 8, 41, 42, 43, 44, 45, 46, 47, 48, 49, 50] (by decide +kernel) (by decide +kernel)
set_option maxRecDepth 20000 in
theorem gX6_follows_X0_isSet : GoodIn wsX6_follows (wsV RX6 223 RX0 yX0_isSet wsX0_isSet) := goodIn_app (goodIn_of _ (by decide +kernel)) ggX6_follows_X0_isSet
set_option maxRecDepth 20000 in
theorem ggX6_follows_X6_finding : GoodIn wsX6_follows wsX6_finding := goodIn_r _ [21, 2, 22, 23, 24, 20, 25, 32, 33, 34, 35, 36, 37, 38, 39, 40] (by decide +kernel) (by decide +kernel)
set_option maxRecDepth 20000 in
theorem gX6_follows_X6_finding : GoodIn wsX6_follows (wsV RX6 71 RX6 yX6_finding wsX6_finding) := goodIn_app (goodIn_of _ (by decide +kernel)) ggX6_follows_X6_finding
set_option maxRecDepth 20000 in
theorem ggX6_follows_X0_wordOf : GoodIn wsX6_follows wsX0_wordOf := goodIn_r _ [29, 30, 41, 42, 43, 44, 45, 46, 47, 48, 49, 50] (by decide +kernel) (by decide +kernel)
set_option maxRecDepth 20000 in
theorem gX6_follows_X0_wordOf : GoodIn wsX6_follows (wsV RX6 104 RX0 yX0_wordOf wsX0_wordOf) := goodIn_app (goodIn_of _ (by decide +kernel)) ggX6_follows_X0_wordOf
set_option maxRecDepth 20000 in
theorem ggX6_follows_X0_all : GoodIn wsX6_follows wsX0_all := goodIn_r _ [16, 8, 41, 42, 43, 44, 45, 46, 47, 48, 49, 50] (by decide +kernel) (by decide +kernel)
set_option maxRecDepth 20000 in
theorem gX6_follows_X0_all : GoodIn wsX6_follows (wsV RX6 226 RX0 yX0_all wsX0_all) := goodIn_app (goodIn_of _ (by decide +kernel)) ggX6_follows_X0_all
theorem dX6_follows_0 : decode cX6_follows 0 = .ok (.aload_n 0, 1) := by decide +kernel
theorem dX6_follows_1 : decode cX6_follows 1 = .ok (.getfield 12, 3) := by decide +kernel
theorem dX6_follows_4 : decode cX6_follows 4 = .ok (.iload_n 1, 1) := by decide +kernel
theorem dX6_follows_5 : decode cX6_follows 5 = .ok (.invokevirtual 92, 3) := by decide +kernel
theorem dX6_follows_8 : decode cX6_follows 8 = .ok (.ifCond .eq 14, 3) := by decide +kernel
theorem dX6_follows_11 : decode cX6_follows 11 = .ok (.aload_n 0, 1) := by decide +kernel
theorem dX6_follows_12 : decode cX6_follows 12 = .ok (.getfield 12, 3) := by decide +kernel
theorem dX6_follows_15 : decode cX6_follows 15 = .ok (.iload_n 2, 1) := by decide +kernel
theorem dX6_follows_16 : decode cX6_follows 16 = .ok (.invokevirtual 223, 3) := by decide +kernel
theorem dX6_follows_19 : decode cX6_follows 19 = .ok (.ifCond .ne 10, 3) := by decide +kernel
theorem dX6_follows_22 : decode cX6_follows 22 = .ok (.aload_n 0, 1) := by decide +kernel
theorem dX6_follows_23 : decode cX6_follows 23 = .ok (.ldc 70, 2) := by decide +kernel
theorem dX6_follows_25 : decode cX6_follows 25 = .ok (.invokevirtual 71, 3) := by decide +kernel
theorem dX6_follows_28 : decode cX6_follows 28 = .ok (.ireturn, 1) := by decide +kernel
theorem dX6_follows_29 : decode cX6_follows 29 = .ok (.aload_n 0, 1) := by decide +kernel
theorem dX6_follows_30 : decode cX6_follows 30 = .ok (.getfield 12, 3) := by decide +kernel
theorem dX6_follows_33 : decode cX6_follows 33 = .ok (.iload_n 1, 1) := by decide +kernel
theorem dX6_follows_34 : decode cX6_follows 34 = .ok (.invokevirtual 104, 3) := by decide +kernel
theorem dX6_follows_37 : decode cX6_follows 37 = .ok (.iconst 1, 1) := by decide +kernel
theorem dX6_follows_38 : decode cX6_follows 38 = .ok (.if_icmp .ne 7, 3) := by decide +kernel
theorem dX6_follows_41 : decode cX6_follows 41 = .ok (.iload_n 2, 1) := by decide +kernel
theorem dX6_follows_42 : decode cX6_follows 42 = .ok (.goto 14, 3) := by decide +kernel
theorem dX6_follows_45 : decode cX6_follows 45 = .ok (.aload_n 0, 1) := by decide +kernel
theorem dX6_follows_46 : decode cX6_follows 46 = .ok (.getfield 12, 3) := by decide +kernel
theorem dX6_follows_49 : decode cX6_follows 49 = .ok (.invokevirtual 226, 3) := by decide +kernel
theorem dX6_follows_52 : decode cX6_follows 52 = .ok (.iload_n 2, 1) := by decide +kernel
theorem dX6_follows_53 : decode cX6_follows 53 = .ok (.iconst (-1), 1) := by decide +kernel
theorem dX6_follows_54 : decode cX6_follows 54 = .ok (.ixor, 1) := by decide +kernel
theorem dX6_follows_55 : decode cX6_follows 55 = .ok (.iand, 1) := by decide +kernel
theorem dX6_follows_56 : decode cX6_follows 56 = .ok (.istore_n 3, 1) := by decide +kernel
theorem dX6_follows_57 : decode cX6_follows 57 = .ok (.iload_n 3, 1) := by decide +kernel
theorem dX6_follows_58 : decode cX6_follows 58 = .ok (.iconst 1, 1) := by decide +kernel
theorem dX6_follows_59 : decode cX6_follows 59 = .ok (.iload_n 1, 1) := by decide +kernel
theorem dX6_follows_60 : decode cX6_follows 60 = .ok (.ishl, 1) := by decide +kernel
theorem dX6_follows_61 : decode cX6_follows 61 = .ok (.iconst (-1), 1) := by decide +kernel
theorem dX6_follows_62 : decode cX6_follows 62 = .ok (.ixor, 1) := by decide +kernel
theorem dX6_follows_63 : decode cX6_follows 63 = .ok (.iand, 1) := by decide +kernel
theorem dX6_follows_64 : decode cX6_follows 64 = .ok (.ireturn, 1) := by decide +kernel
set_option maxRecDepth 20000 in
theorem ggX6_moves_X0_isSet : GoodIn wsX6_moves wsX0_isSet := goodIn_r _ [9, 10, 11, 12, 8, 13, 14, 139, 140, 141, 142, 143, 144, 145, 146, 147, 148] (by decide +kernel) (by decide +kernel)
set_option maxRecDepth 20000 in
theorem gX6_moves_X0_isSet : GoodIn wsX6_moves (wsV RX6 223 RX0 yX0_isSet wsX0_isSet) := goodIn_app (goodIn_of _ (by decide +kernel)) ggX6_moves_X0_isSet
set_option maxRecDepth 20000 in
theorem ggX6_moves_X6_isFrom : GoodIn wsX6_moves wsX6_isFrom := goodIn_r _ [18] (by decide +kernel) (by decide +kernel)
set_option maxRecDepth 20000 in
theorem gX6_moves_X6_isFrom : GoodIn wsX6_moves (va_wsS RX6 156 yX6_isFrom wsX6_isFrom) := goodIn_app (goodIn_of _ (by decide +kernel)) ggX6_moves_X6_isFrom
set_option maxRecDepth 20000 in
theorem ggX6_moves_X6_finding : GoodIn wsX6_moves wsX6_finding := goodIn_r _ [22, 2, 23, 15, 16, 17, 18, 130, 131, 132, 133, 134, 135, 136, 137, 138] (by decide +kernel) (by decide +kernel)
set_option maxRecDepth 20000 in
theorem gX6_moves_X6_finding : GoodIn wsX6_moves (wsV RX6 71 RX6 yX6_finding wsX6_finding) := goodIn_app (goodIn_of _ (by decide +kernel)) ggX6_moves_X6_finding
set_option maxRecDepth 20000 in
theorem ggX6_moves_X4_explainingMoves : GoodIn wsX6_moves wsX4_explainingMoves := goodIn_r _ [28, 29, 30, 31, 32, 33, 34, 35, 36, 37, 38, 27, 39, 40, 41, 42, 43, 44, 45, 46, 47, 48, 8, 49, 50, 51, 52, 53, 14, 54, 55, 56, 57, 58, 59, 60, 61, 62, 63, 64, 65, 66, 67, 68, 69, 70, 71, 72, 73, 74, 75, 76, 77, 78, 79, 80, 81, 82, 83, 84, 85, 86, 87, 88, 89, 90, 91, 92, 93, 94, 95, 96, 97, 98, 99, 100, 101, 102, 103, 104, 105, 106, 107, 108, 109, 110, 111, 112, 113, 114, 115, 116, 117, 118, 119, 120, 121, 122, 123, 124, 125, 126, 127, 128, 129, 149, 150, 151, 152, 139, 140, 141, 142, 143, 144, 145, 146, 147, 148, 153, 154, 155, 156] (by decide +kernel) (by decide +kernel)
set_option maxRecDepth 20000 in
theorem gX6_moves_X4_explainingMoves : GoodIn wsX6_moves (wsV RX6 229 RX4 yX4_explainingMoves wsX4_explainingMoves) := goodIn_app (goodIn_of _ (by decide +kernel)) ggX6_moves_X4_explainingMoves
theorem dX6_moves_0 : decode cX6_moves 0 = .ok (.aload_n 0, 1) := by decide +kernel
theorem dX6_moves_1 : decode cX6_moves 1 = .ok (.getfield 12, 3) := by decide +kernel
theorem dX6_moves_4 : decode cX6_moves 4 = .ok (.iload_n 1, 1) := by decide +kernel
theorem dX6_moves_5 : decode cX6_moves 5 = .ok (.invokevirtual 223, 3) := by decide +kernel
theorem dX6_moves_8 : decode cX6_moves 8 = .ok (.ifCond .eq 12, 3) := by decide +kernel
theorem dX6_moves_11 : decode cX6_moves 11 = .ok (.iconst 0, 1) := by decide +kernel
theorem dX6_moves_12 : decode cX6_moves 12 = .ok (.iload_n 2, 1) := by decide +kernel
theorem dX6_moves_13 : decode cX6_moves 13 = .ok (.iconst 2, 1) := by decide +kernel
theorem dX6_moves_14 : decode cX6_moves 14 = .ok (.invokestatic 156, 3) := by decide +kernel
theorem dX6_moves_17 : decode cX6_moves 17 = .ok (.ifCond .ne 10, 3) := by decide +kernel
theorem dX6_moves_20 : decode cX6_moves 20 = .ok (.aload_n 0, 1) := by decide +kernel
theorem dX6_moves_21 : decode cX6_moves 21 = .ok (.ldc 70, 2) := by decide +kernel
theorem dX6_moves_23 : decode cX6_moves 23 = .ok (.invokevirtual 71, 3) := by decide +kernel
theorem dX6_moves_26 : decode cX6_moves 26 = .ok (.ireturn, 1) := by decide +kernel
theorem dX6_moves_27 : decode cX6_moves 27 = .ok (.aload_n 0, 1) := by decide +kernel
theorem dX6_moves_28 : decode cX6_moves 28 = .ok (.getfield 40, 3) := by decide +kernel
theorem dX6_moves_31 : decode cX6_moves 31 = .ok (.iload_n 1, 1) := by decide +kernel
theorem dX6_moves_32 : decode cX6_moves 32 = .ok (.iload_n 2, 1) := by decide +kernel
theorem dX6_moves_33 : decode cX6_moves 33 = .ok (.invokevirtual 229, 3) := by decide +kernel
theorem dX6_moves_36 : decode cX6_moves 36 = .ok (.ldc 155, 2) := by decide +kernel
theorem dX6_moves_38 : decode cX6_moves 38 = .ok (.idiv, 1) := by decide +kernel
theorem dX6_moves_39 : decode cX6_moves 39 = .ok (.ireturn, 1) := by decide +kernel
set_option maxRecDepth 20000 in
theorem ggX6_moved_X0_isSet : GoodIn wsX6_moved wsX0_isSet := goodIn_r _ [10, 11, 12, 13, 9, 14, 15, 140, 141, 142, 143, 144, 145, 146, 147, 148, 149] (by decide +kernel) (by decide +kernel)
set_option maxRecDepth 20000 in
theorem gX6_moved_X0_isSet : GoodIn wsX6_moved (wsV RX6 223 RX0 yX0_isSet wsX0_isSet) := goodIn_app (goodIn_of _ (by decide +kernel)) ggX6_moved_X0_isSet
set_option maxRecDepth 20000 in
theorem ggX6_moved_X6_isFrom : GoodIn wsX6_moved wsX6_isFrom := goodIn_r _ [19] (by decide +kernel) (by decide +kernel)
set_option maxRecDepth 20000 in
theorem gX6_moved_X6_isFrom : GoodIn wsX6_moved (va_wsS RX6 156 yX6_isFrom wsX6_isFrom) := goodIn_app (goodIn_of _ (by decide +kernel)) ggX6_moved_X6_isFrom
set_option maxRecDepth 20000 in
theorem ggX6_moved_X6_finding : GoodIn wsX6_moved wsX6_finding := goodIn_r _ [23, 2, 24, 16, 17, 18, 19, 131, 132, 133, 134, 135, 136, 137, 138, 139] (by decide +kernel) (by decide +kernel)
set_option maxRecDepth 20000 in
theorem gX6_moved_X6_finding : GoodIn wsX6_moved (wsV RX6 71 RX6 yX6_finding wsX6_finding) := goodIn_app (goodIn_of _ (by decide +kernel)) ggX6_moved_X6_finding
set_option maxRecDepth 20000 in
theorem ggX6_moved_X4_explainingMoves : GoodIn wsX6_moved wsX4_explainingMoves := goodIn_r _ [29, 30, 31, 32, 33, 34, 35, 36, 37, 38, 39, 28, 40, 41, 42, 43, 44, 45, 46, 47, 48, 49, 9, 50, 51, 52, 53, 54, 15, 55, 56, 57, 58, 59, 60, 61, 62, 63, 64, 65, 66, 67, 68, 69, 70, 71, 72, 73, 74, 75, 76, 77, 78, 79, 80, 81, 82, 83, 84, 85, 86, 87, 88, 89, 90, 91, 92, 93, 94, 95, 96, 97, 98, 99, 100, 101, 102, 103, 104, 105, 106, 107, 108, 109, 110, 111, 112, 113, 114, 115, 116, 117, 118, 119, 120, 121, 122, 123, 124, 125, 126, 127, 128, 129, 130, 150, 151, 152, 153, 140, 141, 142, 143, 144, 145, 146, 147, 148, 149, 154, 155, 156, 157] (by decide +kernel) (by decide +kernel)
set_option maxRecDepth 20000 in
theorem gX6_moved_X4_explainingMoves : GoodIn wsX6_moved (wsV RX6 229 RX4 yX4_explainingMoves wsX4_explainingMoves) := goodIn_app (goodIn_of _ (by decide +kernel)) ggX6_moved_X4_explainingMoves
theorem dX6_moved_0 : decode cX6_moved 0 = .ok (.aload_n 0, 1) := by decide +kernel
theorem dX6_moved_1 : decode cX6_moved 1 = .ok (.getfield 12, 3) := by decide +kernel
theorem dX6_moved_4 : decode cX6_moved 4 = .ok (.iload_n 1, 1) := by decide +kernel
theorem dX6_moved_5 : decode cX6_moved 5 = .ok (.invokevirtual 223, 3) := by decide +kernel
theorem dX6_moved_8 : decode cX6_moved 8 = .ok (.ifCond .eq 12, 3) := by decide +kernel
theorem dX6_moved_11 : decode cX6_moved 11 = .ok (.iconst 0, 1) := by decide +kernel
theorem dX6_moved_12 : decode cX6_moved 12 = .ok (.iload_n 2, 1) := by decide +kernel
theorem dX6_moved_13 : decode cX6_moved 13 = .ok (.iconst 2, 1) := by decide +kernel
theorem dX6_moved_14 : decode cX6_moved 14 = .ok (.invokestatic 156, 3) := by decide +kernel
theorem dX6_moved_17 : decode cX6_moved 17 = .ok (.ifCond .ne 10, 3) := by decide +kernel
theorem dX6_moved_20 : decode cX6_moved 20 = .ok (.aload_n 0, 1) := by decide +kernel
theorem dX6_moved_21 : decode cX6_moved 21 = .ok (.ldc 70, 2) := by decide +kernel
theorem dX6_moved_23 : decode cX6_moved 23 = .ok (.invokevirtual 71, 3) := by decide +kernel
theorem dX6_moved_26 : decode cX6_moved 26 = .ok (.ireturn, 1) := by decide +kernel
theorem dX6_moved_27 : decode cX6_moved 27 = .ok (.aload_n 0, 1) := by decide +kernel
theorem dX6_moved_28 : decode cX6_moved 28 = .ok (.getfield 40, 3) := by decide +kernel
theorem dX6_moved_31 : decode cX6_moved 31 = .ok (.iload_n 1, 1) := by decide +kernel
theorem dX6_moved_32 : decode cX6_moved 32 = .ok (.iload_n 2, 1) := by decide +kernel
theorem dX6_moved_33 : decode cX6_moved 33 = .ok (.invokevirtual 229, 3) := by decide +kernel
theorem dX6_moved_36 : decode cX6_moved 36 = .ok (.istore_n 3, 1) := by decide +kernel
theorem dX6_moved_37 : decode cX6_moved 37 = .ok (.iload_n 3, 1) := by decide +kernel
theorem dX6_moved_38 : decode cX6_moved 38 = .ok (.ldc 155, 2) := by decide +kernel
theorem dX6_moved_40 : decode cX6_moved 40 = .ok (.if_icmp .ge 12, 3) := by decide +kernel
theorem dX6_moved_43 : decode cX6_moved 43 = .ok (.aload_n 0, 1) := by decide +kernel
theorem dX6_moved_44 : decode cX6_moved 44 = .ok (.ldc 148, 2) := by decide +kernel
theorem dX6_moved_46 : decode cX6_moved 46 = .ok (.invokevirtual 71, 3) := by decide +kernel
theorem dX6_moved_49 : decode cX6_moved 49 = .ok (.goto 7, 3) := by decide +kernel
theorem dX6_moved_52 : decode cX6_moved 52 = .ok (.iload_n 3, 1) := by decide +kernel
theorem dX6_moved_53 : decode cX6_moved 53 = .ok (.ldc 155, 2) := by decide +kernel
theorem dX6_moved_55 : decode cX6_moved 55 = .ok (.irem, 1) := by decide +kernel
theorem dX6_moved_56 : decode cX6_moved 56 = .ok (.ireturn, 1) := by decide +kernel
set_option maxRecDepth 20000 in
theorem ggX6_strew_X6_isFrom : GoodIn wsX6_strew wsX6_isFrom := goodIn_r _ [9] (by decide +kernel) (by decide +kernel)
set_option maxRecDepth 20000 in
theorem gX6_strew_X6_isFrom : GoodIn wsX6_strew (va_wsS RX6 156 yX6_isFrom wsX6_isFrom) := goodIn_app (goodIn_of _ (by decide +kernel)) ggX6_strew_X6_isFrom
set_option maxRecDepth 20000 in
theorem ggX6_strew_X6_finding : GoodIn wsX6_strew wsX6_finding := goodIn_r _ [13, 1, 14, 6, 7, 8, 9, 104, 105, 106, 107, 108, 109, 110, 111, 112] (by decide +kernel) (by decide +kernel)
set_option maxRecDepth 20000 in
theorem gX6_strew_X6_finding : GoodIn wsX6_strew (wsV RX6 71 RX6 yX6_finding wsX6_finding) := goodIn_app (goodIn_of _ (by decide +kernel)) ggX6_strew_X6_finding
set_option maxRecDepth 20000 in
theorem ggX6_strew_X0_draw : GoodIn wsX6_strew wsX0_draw := goodIn_r _ [19, 20, 21, 113, 114, 115, 116, 117, 118, 119, 120, 121, 122] (by decide +kernel) (by decide +kernel)
set_option maxRecDepth 20000 in
theorem gX6_strew_X0_draw : GoodIn wsX6_strew (wsV RX6 232 RX0 yX0_draw wsX0_draw) := goodIn_app (goodIn_of _ (by decide +kernel)) ggX6_strew_X0_draw
set_option maxRecDepth 20000 in
theorem ggX6_strew_X0_stray : GoodIn wsX6_strew wsX0_stray := goodIn_r _ [25, 26, 27, 16, 17, 18, 19, 20, 21, 28, 29, 30, 31, 32, 33, 34, 35, 36, 37, 38, 39, 40, 113, 114, 115, 116, 117, 118, 119, 120, 121, 122] (by decide +kernel) (by decide +kernel)
set_option maxRecDepth 20000 in
theorem gX6_strew_X0_stray : GoodIn wsX6_strew (wsV RX6 235 RX0 yX0_stray wsX0_stray) := goodIn_app (goodIn_of _ (by decide +kernel)) ggX6_strew_X0_stray
set_option maxRecDepth 20000 in
theorem ggX6_strew_X1_listen : GoodIn wsX6_strew wsX1_listen := goodIn_r _ [45, 46, 47, 48, 49, 50, 44, 51, 52, 53, 54, 55, 56, 18, 57, 58, 59, 60, 61, 62, 63, 64, 65, 66, 67, 68, 69, 70, 71, 72, 73, 74, 75, 76, 77, 78, 79, 80, 81, 82, 83, 84, 123, 124, 125, 126, 113, 114, 115, 116, 117, 118, 119, 120, 121, 122] (by decide +kernel) (by decide +kernel)
set_option maxRecDepth 20000 in
theorem gX6_strew_X1_listen : GoodIn wsX6_strew (wsV RX6 95 RX1 yX1_listen wsX1_listen) := goodIn_app (goodIn_of _ (by decide +kernel)) ggX6_strew_X1_listen
set_option maxRecDepth 20000 in
theorem ggX6_strew_X1_countPairs : GoodIn wsX6_strew wsX1_countPairs := goodIn_r _ [88, 89, 90, 91, 44, 92, 46, 47, 93, 94, 95, 96, 70, 97, 98, 99, 100, 101, 102, 103, 123, 124, 125, 126, 113, 114, 115, 116, 117, 118, 119, 120, 121, 122] (by decide +kernel) (by decide +kernel)
set_option maxRecDepth 20000 in
theorem gX6_strew_X1_countPairs : GoodIn wsX6_strew (wsV RX6 171 RX1 yX1_countPairs wsX1_countPairs) := goodIn_app (goodIn_of _ (by decide +kernel)) ggX6_strew_X1_countPairs
theorem dX6_strew_0 : decode cX6_strew 0 = .ok (.iconst 1, 1) := by decide +kernel
theorem dX6_strew_1 : decode cX6_strew 1 = .ok (.iload_n 1, 1) := by decide +kernel
theorem dX6_strew_2 : decode cX6_strew 2 = .ok (.bipush 12, 2) := by decide +kernel
theorem dX6_strew_4 : decode cX6_strew 4 = .ok (.invokestatic 156, 3) := by decide +kernel
theorem dX6_strew_7 : decode cX6_strew 7 = .ok (.ifCond .ne 10, 3) := by decide +kernel
theorem dX6_strew_10 : decode cX6_strew 10 = .ok (.aload_n 0, 1) := by decide +kernel
theorem dX6_strew_11 : decode cX6_strew 11 = .ok (.ldc 70, 2) := by decide +kernel
theorem dX6_strew_13 : decode cX6_strew 13 = .ok (.invokevirtual 71, 3) := by decide +kernel
theorem dX6_strew_16 : decode cX6_strew 16 = .ok (.ireturn, 1) := by decide +kernel
theorem dX6_strew_17 : decode cX6_strew 17 = .ok (.aload_n 0, 1) := by decide +kernel
theorem dX6_strew_18 : decode cX6_strew 18 = .ok (.getfield 12, 3) := by decide +kernel
theorem dX6_strew_21 : decode cX6_strew 21 = .ok (.getfield 83, 3) := by decide +kernel
theorem dX6_strew_24 : decode cX6_strew 24 = .ok (.ifCond .ne 10, 3) := by decide +kernel
theorem dX6_strew_27 : decode cX6_strew 27 = .ok (.aload_n 0, 1) := by decide +kernel
theorem dX6_strew_28 : decode cX6_strew 28 = .ok (.ldc 82, 2) := by decide +kernel
theorem dX6_strew_30 : decode cX6_strew 30 = .ok (.invokevirtual 71, 3) := by decide +kernel
theorem dX6_strew_33 : decode cX6_strew 33 = .ok (.ireturn, 1) := by decide +kernel
theorem dX6_strew_34 : decode cX6_strew 34 = .ok (.iconst 0, 1) := by decide +kernel
theorem dX6_strew_35 : decode cX6_strew 35 = .ok (.istore_n 2, 1) := by decide +kernel
theorem dX6_strew_36 : decode cX6_strew 36 = .ok (.iload_n 2, 1) := by decide +kernel
theorem dX6_strew_37 : decode cX6_strew 37 = .ok (.iload_n 1, 1) := by decide +kernel
theorem dX6_strew_38 : decode cX6_strew 38 = .ok (.if_icmp .ge 33, 3) := by decide +kernel
theorem dX6_strew_41 : decode cX6_strew 41 = .ok (.aload_n 0, 1) := by decide +kernel
theorem dX6_strew_42 : decode cX6_strew 42 = .ok (.getfield 12, 3) := by decide +kernel
theorem dX6_strew_45 : decode cX6_strew 45 = .ok (.invokevirtual 232, 3) := by decide +kernel
theorem dX6_strew_48 : decode cX6_strew 48 = .ok (.aload_n 0, 1) := by decide +kernel
theorem dX6_strew_49 : decode cX6_strew 49 = .ok (.getfield 12, 3) := by decide +kernel
theorem dX6_strew_52 : decode cX6_strew 52 = .ok (.getfield 83, 3) := by decide +kernel
theorem dX6_strew_55 : decode cX6_strew 55 = .ok (.irem, 1) := by decide +kernel
theorem dX6_strew_56 : decode cX6_strew 56 = .ok (.istore_n 3, 1) := by decide +kernel
theorem dX6_strew_57 : decode cX6_strew 57 = .ok (.aload_n 0, 1) := by decide +kernel
theorem dX6_strew_58 : decode cX6_strew 58 = .ok (.getfield 12, 3) := by decide +kernel
theorem dX6_strew_61 : decode cX6_strew 61 = .ok (.iload_n 3, 1) := by decide +kernel
theorem dX6_strew_62 : decode cX6_strew 62 = .ok (.invokevirtual 235, 3) := by decide +kernel
theorem dX6_strew_65 : decode cX6_strew 65 = .ok (.iinc 2 1, 3) := by decide +kernel
theorem dX6_strew_68 : decode cX6_strew 68 = .ok (.goto (-32), 3) := by decide +kernel
theorem dX6_strew_71 : decode cX6_strew 71 = .ok (.aload_n 0, 1) := by decide +kernel
theorem dX6_strew_72 : decode cX6_strew 72 = .ok (.getfield 24, 3) := by decide +kernel
theorem dX6_strew_75 : decode cX6_strew 75 = .ok (.invokevirtual 95, 3) := by decide +kernel
theorem dX6_strew_78 : decode cX6_strew 78 = .ok (.aload_n 0, 1) := by decide +kernel
theorem dX6_strew_79 : decode cX6_strew 79 = .ok (.getfield 24, 3) := by decide +kernel
theorem dX6_strew_82 : decode cX6_strew 82 = .ok (.invokevirtual 171, 3) := by decide +kernel
theorem dX6_strew_85 : decode cX6_strew 85 = .ok (.ireturn, 1) := by decide +kernel
set_option maxRecDepth 20000 in
theorem ggX6_camps_X6_isFrom : GoodIn wsX6_camps wsX6_isFrom := goodIn_r _ [9] (by decide +kernel) (by decide +kernel)
set_option maxRecDepth 20000 in
theorem gX6_camps_X6_isFrom : GoodIn wsX6_camps (va_wsS RX6 156 yX6_isFrom wsX6_isFrom) := goodIn_app (goodIn_of _ (by decide +kernel)) ggX6_camps_X6_isFrom
set_option maxRecDepth 20000 in
theorem ggX6_camps_X6_finding : GoodIn wsX6_camps wsX6_finding := goodIn_r _ [13, 1, 14, 6, 7, 8, 9, 125, 126, 127, 128, 129, 130, 131, 132, 133] (by decide +kernel) (by decide +kernel)
set_option maxRecDepth 20000 in
theorem gX6_camps_X6_finding : GoodIn wsX6_camps (wsV RX6 71 RX6 yX6_finding wsX6_finding) := goodIn_app (goodIn_of _ (by decide +kernel)) ggX6_camps_X6_finding
set_option maxRecDepth 20000 in
theorem ggX6_camps_X4_pairsOfCamps : GoodIn wsX6_camps wsX4_pairsOfCamps := goodIn_r _ [19, 20, 21, 22, 23, 24, 25, 26, 27, 28, 29, 30, 31, 32, 33, 34, 35, 36, 37, 38, 39, 40, 41, 42, 43, 44, 45, 46, 47, 48, 49, 50, 51, 52, 53, 54, 55, 56, 57, 58, 59, 60, 61, 62, 63, 64, 65, 66, 67, 68, 69, 70, 71, 72, 73, 74, 75, 76, 77, 78, 79, 80, 81, 82, 83, 84, 85, 86, 87, 88, 89, 90, 91, 92, 93, 94, 95, 96, 97, 98, 99, 100, 101, 102, 103, 104, 105, 106, 107, 108, 109, 110, 111, 112, 113, 114, 115, 116, 117, 118, 119, 120, 121, 122, 123, 124, 144, 145, 146, 147, 134, 135, 136, 137, 138, 139, 140, 141, 142, 143, 148, 149, 150, 151] (by decide +kernel) (by decide +kernel)
set_option maxRecDepth 20000 in
theorem gX6_camps_X4_pairsOfCamps : GoodIn wsX6_camps (wsV RX6 239 RX4 yX4_pairsOfCamps wsX4_pairsOfCamps) := goodIn_app (goodIn_of _ (by decide +kernel)) ggX6_camps_X4_pairsOfCamps
theorem dX6_camps_0 : decode cX6_camps 0 = .ok (.iconst 1, 1) := by decide +kernel
theorem dX6_camps_1 : decode cX6_camps 1 = .ok (.iload_n 1, 1) := by decide +kernel
theorem dX6_camps_2 : decode cX6_camps 2 = .ok (.bipush 12, 2) := by decide +kernel
theorem dX6_camps_4 : decode cX6_camps 4 = .ok (.invokestatic 156, 3) := by decide +kernel
theorem dX6_camps_7 : decode cX6_camps 7 = .ok (.ifCond .ne 10, 3) := by decide +kernel
theorem dX6_camps_10 : decode cX6_camps 10 = .ok (.aload_n 0, 1) := by decide +kernel
theorem dX6_camps_11 : decode cX6_camps 11 = .ok (.ldc 70, 2) := by decide +kernel
theorem dX6_camps_13 : decode cX6_camps 13 = .ok (.invokevirtual 71, 3) := by decide +kernel
theorem dX6_camps_16 : decode cX6_camps 16 = .ok (.ireturn, 1) := by decide +kernel
theorem dX6_camps_17 : decode cX6_camps 17 = .ok (.aload_n 0, 1) := by decide +kernel
theorem dX6_camps_18 : decode cX6_camps 18 = .ok (.getfield 12, 3) := by decide +kernel
theorem dX6_camps_21 : decode cX6_camps 21 = .ok (.getfield 83, 3) := by decide +kernel
theorem dX6_camps_24 : decode cX6_camps 24 = .ok (.ifCond .ne 10, 3) := by decide +kernel
theorem dX6_camps_27 : decode cX6_camps 27 = .ok (.aload_n 0, 1) := by decide +kernel
theorem dX6_camps_28 : decode cX6_camps 28 = .ok (.ldc 82, 2) := by decide +kernel
theorem dX6_camps_30 : decode cX6_camps 30 = .ok (.invokevirtual 71, 3) := by decide +kernel
theorem dX6_camps_33 : decode cX6_camps 33 = .ok (.ireturn, 1) := by decide +kernel
theorem dX6_camps_34 : decode cX6_camps 34 = .ok (.aload_n 0, 1) := by decide +kernel
theorem dX6_camps_35 : decode cX6_camps 35 = .ok (.getfield 40, 3) := by decide +kernel
theorem dX6_camps_38 : decode cX6_camps 38 = .ok (.iload_n 1, 1) := by decide +kernel
theorem dX6_camps_39 : decode cX6_camps 39 = .ok (.invokevirtual 239, 3) := by decide +kernel
theorem dX6_camps_42 : decode cX6_camps 42 = .ok (.ireturn, 1) := by decide +kernel
theorem dX6_seed_0 : decode cX6_seed 0 = .ok (.aload_n 0, 1) := by decide +kernel
theorem dX6_seed_1 : decode cX6_seed 1 = .ok (.getfield 12, 3) := by decide +kernel
theorem dX6_seed_4 : decode cX6_seed 4 = .ok (.getfield 242, 3) := by decide +kernel
theorem dX6_seed_7 : decode cX6_seed 7 = .ok (.istore_n 2, 1) := by decide +kernel
theorem dX6_seed_8 : decode cX6_seed 8 = .ok (.aload_n 0, 1) := by decide +kernel
theorem dX6_seed_9 : decode cX6_seed 9 = .ok (.getfield 12, 3) := by decide +kernel
theorem dX6_seed_12 : decode cX6_seed 12 = .ok (.iload_n 1, 1) := by decide +kernel
theorem dX6_seed_13 : decode cX6_seed 13 = .ok (.putfield 242, 3) := by decide +kernel
theorem dX6_seed_16 : decode cX6_seed 16 = .ok (.iload_n 2, 1) := by decide +kernel
theorem dX6_seed_17 : decode cX6_seed 17 = .ok (.ireturn, 1) := by decide +kernel
set_option maxRecDepth 20000 in
theorem ggX6_feed_X6_isFrom : GoodIn wsX6_feed wsX6_isFrom := goodIn_r _ [8] (by decide +kernel) (by decide +kernel)
set_option maxRecDepth 20000 in
theorem gX6_feed_X6_isFrom : GoodIn wsX6_feed (va_wsS RX6 156 yX6_isFrom wsX6_isFrom) := goodIn_app (goodIn_of _ (by decide +kernel)) ggX6_feed_X6_isFrom
set_option maxRecDepth 20000 in
theorem ggX6_feed_X6_finding : GoodIn wsX6_feed wsX6_finding := goodIn_r _ [12, 1, 13, 5, 6, 7, 8, 21, 22, 23, 24, 25, 26, 27, 28, 29] (by decide +kernel) (by decide +kernel)
set_option maxRecDepth 20000 in
theorem gX6_feed_X6_finding : GoodIn wsX6_feed (wsV RX6 71 RX6 yX6_finding wsX6_finding) := goodIn_app (goodIn_of _ (by decide +kernel)) ggX6_feed_X6_finding
set_option maxRecDepth 20000 in
theorem ggX6_feed_X3_put : GoodIn wsX6_feed wsX3_put := goodIn_r _ [18, 19, 20, 30, 31, 32, 33, 34, 35] (by decide +kernel) (by decide +kernel)
set_option maxRecDepth 20000 in
theorem gX6_feed_X3_put : GoodIn wsX6_feed (wsV RX6 248 RX3 yX3_put wsX3_put) := goodIn_app (goodIn_of _ (by decide +kernel)) ggX6_feed_X3_put
theorem dX6_feed_0 : decode cX6_feed 0 = .ok (.iconst 1, 1) := by decide +kernel
theorem dX6_feed_1 : decode cX6_feed 1 = .ok (.iload_n 2, 1) := by decide +kernel
theorem dX6_feed_2 : decode cX6_feed 2 = .ok (.iconst 4, 1) := by decide +kernel
theorem dX6_feed_3 : decode cX6_feed 3 = .ok (.invokestatic 156, 3) := by decide +kernel
theorem dX6_feed_6 : decode cX6_feed 6 = .ok (.ifCond .ne 10, 3) := by decide +kernel
theorem dX6_feed_9 : decode cX6_feed 9 = .ok (.aload_n 0, 1) := by decide +kernel
theorem dX6_feed_10 : decode cX6_feed 10 = .ok (.ldc 70, 2) := by decide +kernel
theorem dX6_feed_12 : decode cX6_feed 12 = .ok (.invokevirtual 71, 3) := by decide +kernel
theorem dX6_feed_15 : decode cX6_feed 15 = .ok (.ireturn, 1) := by decide +kernel
theorem dX6_feed_16 : decode cX6_feed 16 = .ok (.iload_n 2, 1) := by decide +kernel
theorem dX6_feed_17 : decode cX6_feed 17 = .ok (.bipush 120, 2) := by decide +kernel
theorem dX6_feed_19 : decode cX6_feed 19 = .ok (.aload_n 0, 1) := by decide +kernel
theorem dX6_feed_20 : decode cX6_feed 20 = .ok (.getfield 47, 3) := by decide +kernel
theorem dX6_feed_23 : decode cX6_feed 23 = .ok (.getfield 245, 3) := by decide +kernel
theorem dX6_feed_26 : decode cX6_feed 26 = .ok (.isub, 1) := by decide +kernel
theorem dX6_feed_27 : decode cX6_feed 27 = .ok (.if_icmp .le 10, 3) := by decide +kernel
theorem dX6_feed_30 : decode cX6_feed 30 = .ok (.aload_n 0, 1) := by decide +kernel
theorem dX6_feed_31 : decode cX6_feed 31 = .ok (.ldc 87, 2) := by decide +kernel
theorem dX6_feed_33 : decode cX6_feed 33 = .ok (.invokevirtual 71, 3) := by decide +kernel
theorem dX6_feed_36 : decode cX6_feed 36 = .ok (.ireturn, 1) := by decide +kernel
theorem dX6_feed_37 : decode cX6_feed 37 = .ok (.aload_n 0, 1) := by decide +kernel
theorem dX6_feed_38 : decode cX6_feed 38 = .ok (.getfield 47, 3) := by decide +kernel
theorem dX6_feed_41 : decode cX6_feed 41 = .ok (.iload_n 1, 1) := by decide +kernel
theorem dX6_feed_42 : decode cX6_feed 42 = .ok (.iload_n 2, 1) := by decide +kernel
theorem dX6_feed_43 : decode cX6_feed 43 = .ok (.invokevirtual 248, 3) := by decide +kernel
theorem dX6_feed_46 : decode cX6_feed 46 = .ok (.aload_n 0, 1) := by decide +kernel
theorem dX6_feed_47 : decode cX6_feed 47 = .ok (.getfield 47, 3) := by decide +kernel
theorem dX6_feed_50 : decode cX6_feed 50 = .ok (.getfield 245, 3) := by decide +kernel
theorem dX6_feed_53 : decode cX6_feed 53 = .ok (.ireturn, 1) := by decide +kernel
theorem dX6_wipe_0 : decode cX6_wipe 0 = .ok (.aload_n 0, 1) := by decide +kernel
theorem dX6_wipe_1 : decode cX6_wipe 1 = .ok (.getfield 47, 3) := by decide +kernel
theorem dX6_wipe_4 : decode cX6_wipe 4 = .ok (.getfield 245, 3) := by decide +kernel
theorem dX6_wipe_7 : decode cX6_wipe 7 = .ok (.istore_n 1, 1) := by decide +kernel
theorem dX6_wipe_8 : decode cX6_wipe 8 = .ok (.aload_n 0, 1) := by decide +kernel
theorem dX6_wipe_9 : decode cX6_wipe 9 = .ok (.getfield 47, 3) := by decide +kernel
theorem dX6_wipe_12 : decode cX6_wipe 12 = .ok (.iconst 0, 1) := by decide +kernel
theorem dX6_wipe_13 : decode cX6_wipe 13 = .ok (.putfield 245, 3) := by decide +kernel
theorem dX6_wipe_16 : decode cX6_wipe 16 = .ok (.iload_n 1, 1) := by decide +kernel
theorem dX6_wipe_17 : decode cX6_wipe 17 = .ok (.ireturn, 1) := by decide +kernel
set_option maxRecDepth 20000 in
theorem ggX6_text_X4_read : GoodIn wsX6_text wsX4_read := goodIn_r _ [8, 9, 10, 11, 12, 13, 14, 15, 16, 17, 18, 19, 20, 21, 22, 23, 24, 25, 26, 27, 28, 29, 30, 31, 32, 33, 34, 35, 36, 37, 38, 39, 40, 41, 42, 43, 44, 45, 46, 47, 48, 49, 50, 51, 52, 53, 54, 55, 56, 57, 58, 59, 60, 61, 62, 63, 64, 65, 66, 67, 68, 69, 70, 71, 72, 73, 74, 75, 76, 77, 78, 79, 80, 81, 82, 83, 84, 85, 86, 87, 88, 89, 90, 91, 92, 93, 94, 95, 96, 97, 98, 99, 100, 101, 102, 103, 104, 105, 106, 107, 108, 109, 110, 111, 112, 113, 114, 115, 116, 117, 118, 119, 120, 121, 122, 123, 124, 125, 126, 127, 128, 129, 130, 131, 132, 133, 134, 135, 136, 137, 138, 139, 140, 141, 142, 158, 159, 160, 161, 162, 163, 164, 165, 166, 167, 168, 169, 170, 171, 152, 153, 154, 155, 156, 157] (by decide +kernel) (by decide +kernel)
set_option maxRecDepth 20000 in
theorem gX6_text_X4_read : GoodIn wsX6_text (wsV RX6 251 RX4 yX4_read wsX4_read) := goodIn_app (goodIn_of _ (by decide +kernel)) ggX6_text_X4_read
theorem dX6_text_0 : decode cX6_text 0 = .ok (.aload_n 0, 1) := by decide +kernel
theorem dX6_text_1 : decode cX6_text 1 = .ok (.getfield 40, 3) := by decide +kernel
theorem dX6_text_4 : decode cX6_text 4 = .ok (.aload_n 0, 1) := by decide +kernel
theorem dX6_text_5 : decode cX6_text 5 = .ok (.getfield 47, 3) := by decide +kernel
theorem dX6_text_8 : decode cX6_text 8 = .ok (.invokevirtual 251, 3) := by decide +kernel
theorem dX6_text_11 : decode cX6_text 11 = .ok (.istore_n 1, 1) := by decide +kernel
theorem dX6_text_12 : decode cX6_text 12 = .ok (.aload_n 0, 1) := by decide +kernel
theorem dX6_text_13 : decode cX6_text 13 = .ok (.getfield 47, 3) := by decide +kernel
theorem dX6_text_16 : decode cX6_text 16 = .ok (.iconst 0, 1) := by decide +kernel
theorem dX6_text_17 : decode cX6_text 17 = .ok (.putfield 245, 3) := by decide +kernel
theorem dX6_text_20 : decode cX6_text 20 = .ok (.iload_n 1, 1) := by decide +kernel
theorem dX6_text_21 : decode cX6_text 21 = .ok (.ireturn, 1) := by decide +kernel
set_option maxRecDepth 20000 in
theorem ggX6_hold_X6_isSpot : GoodIn wsX6_hold wsX6_isSpot := goodIn_r _ [7, 8, 9, 6, 10] (by decide +kernel) (by decide +kernel)
set_option maxRecDepth 20000 in
theorem gX6_hold_X6_isSpot : GoodIn wsX6_hold (va_wsS RX6 255 yX6_isSpot wsX6_isSpot) := goodIn_app (goodIn_of _ (by decide +kernel)) ggX6_hold_X6_isSpot
set_option maxRecDepth 20000 in
theorem ggX6_hold_X0_has : GoodIn wsX6_hold wsX0_has := goodIn_r _ [15, 16, 31, 32, 33, 34, 35, 36, 37, 38, 39, 40] (by decide +kernel) (by decide +kernel)
set_option maxRecDepth 20000 in
theorem gX6_hold_X0_has : GoodIn wsX6_hold (wsV RX6 92 RX0 yX0_has wsX0_has) := goodIn_app (goodIn_of _ (by decide +kernel)) ggX6_hold_X0_has
set_option maxRecDepth 20000 in
theorem ggX6_hold_X6_finding : GoodIn wsX6_hold wsX6_finding := goodIn_r _ [20, 2, 21, 8, 9, 6, 10, 22, 23, 24, 25, 26, 27, 28, 29, 30] (by decide +kernel) (by decide +kernel)
set_option maxRecDepth 20000 in
theorem gX6_hold_X6_finding : GoodIn wsX6_hold (wsV RX6 71 RX6 yX6_finding wsX6_finding) := goodIn_app (goodIn_of _ (by decide +kernel)) ggX6_hold_X6_finding
theorem dX6_hold_0 : decode cX6_hold 0 = .ok (.iload_n 1, 1) := by decide +kernel
theorem dX6_hold_1 : decode cX6_hold 1 = .ok (.invokestatic 255, 3) := by decide +kernel
theorem dX6_hold_4 : decode cX6_hold 4 = .ok (.ifCond .eq 19, 3) := by decide +kernel
theorem dX6_hold_7 : decode cX6_hold 7 = .ok (.iload_n 2, 1) := by decide +kernel
theorem dX6_hold_8 : decode cX6_hold 8 = .ok (.iconst (-1), 1) := by decide +kernel
theorem dX6_hold_9 : decode cX6_hold 9 = .ok (.if_icmp .eq 21, 3) := by decide +kernel
theorem dX6_hold_12 : decode cX6_hold 12 = .ok (.aload_n 0, 1) := by decide +kernel
theorem dX6_hold_13 : decode cX6_hold 13 = .ok (.getfield 12, 3) := by decide +kernel
theorem dX6_hold_16 : decode cX6_hold 16 = .ok (.iload_n 2, 1) := by decide +kernel
theorem dX6_hold_17 : decode cX6_hold 17 = .ok (.invokevirtual 92, 3) := by decide +kernel
theorem dX6_hold_20 : decode cX6_hold 20 = .ok (.ifCond .ne 10, 3) := by decide +kernel
theorem dX6_hold_23 : decode cX6_hold 23 = .ok (.aload_n 0, 1) := by decide +kernel
theorem dX6_hold_24 : decode cX6_hold 24 = .ok (.ldc 70, 2) := by decide +kernel
theorem dX6_hold_26 : decode cX6_hold 26 = .ok (.invokevirtual 71, 3) := by decide +kernel
theorem dX6_hold_29 : decode cX6_hold 29 = .ok (.ireturn, 1) := by decide +kernel
theorem dX6_hold_30 : decode cX6_hold 30 = .ok (.aload_n 0, 1) := by decide +kernel
theorem dX6_hold_31 : decode cX6_hold 31 = .ok (.getfield 12, 3) := by decide +kernel
theorem dX6_hold_34 : decode cX6_hold 34 = .ok (.getfield 258, 3) := by decide +kernel
theorem dX6_hold_37 : decode cX6_hold 37 = .ok (.iload_n 1, 1) := by decide +kernel
theorem dX6_hold_38 : decode cX6_hold 38 = .ok (.iload_n 2, 1) := by decide +kernel
theorem dX6_hold_39 : decode cX6_hold 39 = .ok (.iastore, 1) := by decide +kernel
theorem dX6_hold_40 : decode cX6_hold 40 = .ok (.iconst 1, 1) := by decide +kernel
theorem dX6_hold_41 : decode cX6_hold 41 = .ok (.ireturn, 1) := by decide +kernel
set_option maxRecDepth 20000 in
theorem ggX6_as_X6_isSpot : GoodIn wsX6_as wsX6_isSpot := goodIn_r _ [10, 11, 12, 9, 13] (by decide +kernel) (by decide +kernel)
set_option maxRecDepth 20000 in
theorem gX6_as_X6_isSpot : GoodIn wsX6_as (va_wsS RX6 255 yX6_isSpot wsX6_isSpot) := goodIn_app (goodIn_of _ (by decide +kernel)) ggX6_as_X6_isSpot
set_option maxRecDepth 20000 in
theorem ggX6_as_X6_isKind : GoodIn wsX6_as wsX6_isKind := goodIn_r _ [16, 11, 12, 9, 13] (by decide +kernel) (by decide +kernel)
set_option maxRecDepth 20000 in
theorem gX6_as_X6_isKind : GoodIn wsX6_as (va_wsS RX6 62 yX6_isKind wsX6_isKind) := goodIn_app (goodIn_of _ (by decide +kernel)) ggX6_as_X6_isKind
set_option maxRecDepth 20000 in
theorem ggX6_as_X6_finding : GoodIn wsX6_as wsX6_finding := goodIn_r _ [20, 1, 21, 11, 12, 9, 13, 32, 33, 34, 35, 36, 37, 38, 39, 40] (by decide +kernel) (by decide +kernel)
set_option maxRecDepth 20000 in
theorem gX6_as_X6_finding : GoodIn wsX6_as (wsV RX6 71 RX6 yX6_finding wsX6_finding) := goodIn_app (goodIn_of _ (by decide +kernel)) ggX6_as_X6_finding
set_option maxRecDepth 20000 in
theorem ggX6_as_X0_has : GoodIn wsX6_as wsX0_has := goodIn_r _ [26, 27, 41, 42, 43, 44, 45, 46, 47, 48, 49, 50] (by decide +kernel) (by decide +kernel)
set_option maxRecDepth 20000 in
theorem gX6_as_X0_has : GoodIn wsX6_as (wsV RX6 92 RX0 yX0_has wsX0_has) := goodIn_app (goodIn_of _ (by decide +kernel)) ggX6_as_X0_has
set_option maxRecDepth 20000 in
theorem ggX6_as_X6_isUnder : GoodIn wsX6_as wsX6_isUnder := goodIn_r _ [30, 31, 14, 15, 9, 16, 11, 12, 13] (by decide +kernel) (by decide +kernel)
set_option maxRecDepth 20000 in
theorem gX6_as_X6_isUnder : GoodIn wsX6_as (va_wsS RX6 262 yX6_isUnder wsX6_isUnder) := goodIn_app (goodIn_of _ (by decide +kernel)) ggX6_as_X6_isUnder
theorem dX6_as_0 : decode cX6_as 0 = .ok (.iload_n 1, 1) := by decide +kernel
theorem dX6_as_1 : decode cX6_as 1 = .ok (.invokestatic 255, 3) := by decide +kernel
theorem dX6_as_4 : decode cX6_as 4 = .ok (.ifCond .eq 10, 3) := by decide +kernel
theorem dX6_as_7 : decode cX6_as 7 = .ok (.iload_n 2, 1) := by decide +kernel
theorem dX6_as_8 : decode cX6_as 8 = .ok (.invokestatic 62, 3) := by decide +kernel
theorem dX6_as_11 : decode cX6_as 11 = .ok (.ifCond .ne 10, 3) := by decide +kernel
theorem dX6_as_14 : decode cX6_as 14 = .ok (.aload_n 0, 1) := by decide +kernel
theorem dX6_as_15 : decode cX6_as 15 = .ok (.ldc 70, 2) := by decide +kernel
theorem dX6_as_17 : decode cX6_as 17 = .ok (.invokevirtual 71, 3) := by decide +kernel
theorem dX6_as_20 : decode cX6_as 20 = .ok (.ireturn, 1) := by decide +kernel
theorem dX6_as_21 : decode cX6_as 21 = .ok (.aload_n 0, 1) := by decide +kernel
theorem dX6_as_22 : decode cX6_as 22 = .ok (.getfield 12, 3) := by decide +kernel
theorem dX6_as_25 : decode cX6_as 25 = .ok (.getfield 258, 3) := by decide +kernel
theorem dX6_as_28 : decode cX6_as 28 = .ok (.iload_n 1, 1) := by decide +kernel
theorem dX6_as_29 : decode cX6_as 29 = .ok (.iaload, 1) := by decide +kernel
theorem dX6_as_30 : decode cX6_as 30 = .ok (.istore_n 3, 1) := by decide +kernel
theorem dX6_as_31 : decode cX6_as 31 = .ok (.aload_n 0, 1) := by decide +kernel
theorem dX6_as_32 : decode cX6_as 32 = .ok (.getfield 12, 3) := by decide +kernel
theorem dX6_as_35 : decode cX6_as 35 = .ok (.iload_n 3, 1) := by decide +kernel
theorem dX6_as_36 : decode cX6_as 36 = .ok (.invokevirtual 92, 3) := by decide +kernel
theorem dX6_as_39 : decode cX6_as 39 = .ok (.ifCond .ne 11, 3) := by decide +kernel
theorem dX6_as_42 : decode cX6_as 42 = .ok (.aload_n 0, 1) := by decide +kernel
theorem dX6_as_43 : decode cX6_as 43 = .ok (.ldc_w 261, 3) := by decide +kernel
theorem dX6_as_46 : decode cX6_as 46 = .ok (.invokevirtual 71, 3) := by decide +kernel
theorem dX6_as_49 : decode cX6_as 49 = .ok (.ireturn, 1) := by decide +kernel
theorem dX6_as_50 : decode cX6_as 50 = .ok (.aload_n 0, 1) := by decide +kernel
theorem dX6_as_51 : decode cX6_as 51 = .ok (.getfield 12, 3) := by decide +kernel
theorem dX6_as_54 : decode cX6_as 54 = .ok (.getfield 98, 3) := by decide +kernel
theorem dX6_as_57 : decode cX6_as 57 = .ok (.iload_n 3, 1) := by decide +kernel
theorem dX6_as_58 : decode cX6_as 58 = .ok (.iaload, 1) := by decide +kernel
theorem dX6_as_59 : decode cX6_as 59 = .ok (.iload_n 2, 1) := by decide +kernel
theorem dX6_as_60 : decode cX6_as 60 = .ok (.invokestatic 262, 3) := by decide +kernel
theorem dX6_as_63 : decode cX6_as 63 = .ok (.ifCond .eq 7, 3) := by decide +kernel
theorem dX6_as_66 : decode cX6_as 66 = .ok (.iload_n 3, 1) := by decide +kernel
theorem dX6_as_67 : decode cX6_as 67 = .ok (.goto 10, 3) := by decide +kernel
theorem dX6_as_70 : decode cX6_as 70 = .ok (.aload_n 0, 1) := by decide +kernel
theorem dX6_as_71 : decode cX6_as 71 = .ok (.ldc_w 265, 3) := by decide +kernel
theorem dX6_as_74 : decode cX6_as 74 = .ok (.invokevirtual 71, 3) := by decide +kernel
theorem dX6_as_77 : decode cX6_as 77 = .ok (.ireturn, 1) := by decide +kernel
set_option maxRecDepth 20000 in
theorem ggX6_sheet_X6_isSheet : GoodIn wsX6_sheet wsX6_isSheet := goodIn_r _ [8, 9, 10, 7, 11] (by decide +kernel) (by decide +kernel)
set_option maxRecDepth 20000 in
theorem gX6_sheet_X6_isSheet : GoodIn wsX6_sheet (va_wsS RX6 266 yX6_isSheet wsX6_isSheet) := goodIn_app (goodIn_of _ (by decide +kernel)) ggX6_sheet_X6_isSheet
set_option maxRecDepth 20000 in
theorem ggX6_sheet_X6_finding : GoodIn wsX6_sheet wsX6_finding := goodIn_r _ [15, 1, 16, 9, 10, 7, 11, 29, 30, 31, 32, 33, 34, 35, 36, 37] (by decide +kernel) (by decide +kernel)
set_option maxRecDepth 20000 in
theorem gX6_sheet_X6_finding : GoodIn wsX6_sheet (wsV RX6 71 RX6 yX6_finding wsX6_finding) := goodIn_app (goodIn_of _ (by decide +kernel)) ggX6_sheet_X6_finding
set_option maxRecDepth 20000 in
theorem ggX6_sheet_X2_layOut : GoodIn wsX6_sheet wsX2_layOut := goodIn_r _ [21, 22, 23, 24, 25, 26, 27, 28, 38, 39, 40] (by decide +kernel) (by decide +kernel)
set_option maxRecDepth 20000 in
theorem gX6_sheet_X2_layOut : GoodIn wsX6_sheet (wsV RX6 270 RX2 yX2_layOut wsX2_layOut) := goodIn_app (goodIn_of _ (by decide +kernel)) ggX6_sheet_X2_layOut
theorem dX6_sheet_0 : decode cX6_sheet 0 = .ok (.iload_n 1, 1) := by decide +kernel
theorem dX6_sheet_1 : decode cX6_sheet 1 = .ok (.invokestatic 266, 3) := by decide +kernel
theorem dX6_sheet_4 : decode cX6_sheet 4 = .ok (.ifCond .eq 25, 3) := by decide +kernel
theorem dX6_sheet_7 : decode cX6_sheet 7 = .ok (.iload_n 2, 1) := by decide +kernel
theorem dX6_sheet_8 : decode cX6_sheet 8 = .ok (.ifCond .eq 28, 3) := by decide +kernel
theorem dX6_sheet_11 : decode cX6_sheet 11 = .ok (.iload_n 2, 1) := by decide +kernel
theorem dX6_sheet_12 : decode cX6_sheet 12 = .ok (.bipush 8, 2) := by decide +kernel
theorem dX6_sheet_14 : decode cX6_sheet 14 = .ok (.if_icmp .eq 22, 3) := by decide +kernel
theorem dX6_sheet_17 : decode cX6_sheet 17 = .ok (.iload_n 2, 1) := by decide +kernel
theorem dX6_sheet_18 : decode cX6_sheet 18 = .ok (.bipush 16, 2) := by decide +kernel
theorem dX6_sheet_20 : decode cX6_sheet 20 = .ok (.if_icmp .eq 16, 3) := by decide +kernel
theorem dX6_sheet_23 : decode cX6_sheet 23 = .ok (.iload_n 2, 1) := by decide +kernel
theorem dX6_sheet_24 : decode cX6_sheet 24 = .ok (.bipush 32, 2) := by decide +kernel
theorem dX6_sheet_26 : decode cX6_sheet 26 = .ok (.if_icmp .eq 10, 3) := by decide +kernel
theorem dX6_sheet_29 : decode cX6_sheet 29 = .ok (.aload_n 0, 1) := by decide +kernel
theorem dX6_sheet_30 : decode cX6_sheet 30 = .ok (.ldc 70, 2) := by decide +kernel
theorem dX6_sheet_32 : decode cX6_sheet 32 = .ok (.invokevirtual 71, 3) := by decide +kernel
theorem dX6_sheet_35 : decode cX6_sheet 35 = .ok (.ireturn, 1) := by decide +kernel
theorem dX6_sheet_36 : decode cX6_sheet 36 = .ok (.iload_n 3, 1) := by decide +kernel
theorem dX6_sheet_37 : decode cX6_sheet 37 = .ok (.ifCond .ge 11, 3) := by decide +kernel
theorem dX6_sheet_40 : decode cX6_sheet 40 = .ok (.aload_n 0, 1) := by decide +kernel
theorem dX6_sheet_41 : decode cX6_sheet 41 = .ok (.ldc_w 269, 3) := by decide +kernel
theorem dX6_sheet_44 : decode cX6_sheet 44 = .ok (.invokevirtual 71, 3) := by decide +kernel
theorem dX6_sheet_47 : decode cX6_sheet 47 = .ok (.ireturn, 1) := by decide +kernel
theorem dX6_sheet_48 : decode cX6_sheet 48 = .ok (.iload_n 3, 1) := by decide +kernel
theorem dX6_sheet_49 : decode cX6_sheet 49 = .ok (.bipush 40, 2) := by decide +kernel
theorem dX6_sheet_51 : decode cX6_sheet 51 = .ok (.if_icmp .le 10, 3) := by decide +kernel
theorem dX6_sheet_54 : decode cX6_sheet 54 = .ok (.aload_n 0, 1) := by decide +kernel
theorem dX6_sheet_55 : decode cX6_sheet 55 = .ok (.ldc 70, 2) := by decide +kernel
theorem dX6_sheet_57 : decode cX6_sheet 57 = .ok (.invokevirtual 71, 3) := by decide +kernel
theorem dX6_sheet_60 : decode cX6_sheet 60 = .ok (.ireturn, 1) := by decide +kernel
theorem dX6_sheet_61 : decode cX6_sheet 61 = .ok (.aload_n 0, 1) := by decide +kernel
theorem dX6_sheet_62 : decode cX6_sheet 62 = .ok (.getfield 53, 3) := by decide +kernel
theorem dX6_sheet_65 : decode cX6_sheet 65 = .ok (.iload_n 1, 1) := by decide +kernel
theorem dX6_sheet_66 : decode cX6_sheet 66 = .ok (.aaload, 1) := by decide +kernel
theorem dX6_sheet_67 : decode cX6_sheet 67 = .ok (.iload_n 2, 1) := by decide +kernel
theorem dX6_sheet_68 : decode cX6_sheet 68 = .ok (.iload_n 3, 1) := by decide +kernel
theorem dX6_sheet_69 : decode cX6_sheet 69 = .ok (.invokevirtual 270, 3) := by decide +kernel
theorem dX6_sheet_72 : decode cX6_sheet 72 = .ok (.aload_n 0, 1) := by decide +kernel
theorem dX6_sheet_73 : decode cX6_sheet 73 = .ok (.getfield 53, 3) := by decide +kernel
theorem dX6_sheet_76 : decode cX6_sheet 76 = .ok (.iload_n 1, 1) := by decide +kernel
theorem dX6_sheet_77 : decode cX6_sheet 77 = .ok (.aaload, 1) := by decide +kernel
theorem dX6_sheet_78 : decode cX6_sheet 78 = .ok (.getfield 273, 3) := by decide +kernel
theorem dX6_sheet_81 : decode cX6_sheet 81 = .ok (.ireturn, 1) := by decide +kernel
set_option maxRecDepth 20000 in
theorem ggX6_write_X6_isSheet : GoodIn wsX6_write wsX6_isSheet := goodIn_r _ [8, 9, 10, 7, 11] (by decide +kernel) (by decide +kernel)
set_option maxRecDepth 20000 in
theorem gX6_write_X6_isSheet : GoodIn wsX6_write (va_wsS RX6 266 yX6_isSheet wsX6_isSheet) := goodIn_app (goodIn_of _ (by decide +kernel)) ggX6_write_X6_isSheet
set_option maxRecDepth 20000 in
theorem ggX6_write_X6_finding : GoodIn wsX6_write wsX6_finding := goodIn_r _ [15, 1, 16, 9, 10, 7, 11, 29, 30, 31, 32, 33, 34, 35, 36, 37] (by decide +kernel) (by decide +kernel)
set_option maxRecDepth 20000 in
theorem gX6_write_X6_finding : GoodIn wsX6_write (wsV RX6 71 RX6 yX6_finding wsX6_finding) := goodIn_app (goodIn_of _ (by decide +kernel)) ggX6_write_X6_finding
set_option maxRecDepth 20000 in
theorem ggX6_write_X2_isMissing : GoodIn wsX6_write wsX2_isMissing := goodIn_r _ [21, 22, 38, 39, 40] (by decide +kernel) (by decide +kernel)
set_option maxRecDepth 20000 in
theorem gX6_write_X2_isMissing : GoodIn wsX6_write (wsV RX6 274 RX2 yX2_isMissing wsX2_isMissing) := goodIn_app (goodIn_of _ (by decide +kernel)) ggX6_write_X2_isMissing
set_option maxRecDepth 20000 in
theorem ggX6_write_X2_set : GoodIn wsX6_write wsX2_set := goodIn_r _ [26, 27, 22, 28, 38, 39, 40] (by decide +kernel) (by decide +kernel)
set_option maxRecDepth 20000 in
theorem gX6_write_X2_set : GoodIn wsX6_write (wsV RX6 278 RX2 yX2_set wsX2_set) := goodIn_app (goodIn_of _ (by decide +kernel)) ggX6_write_X2_set
theorem dX6_write_0 : decode cX6_write 0 = .ok (.iload_n 1, 1) := by decide +kernel
theorem dX6_write_1 : decode cX6_write 1 = .ok (.invokestatic 266, 3) := by decide +kernel
theorem dX6_write_4 : decode cX6_write 4 = .ok (.ifCond .ne 10, 3) := by decide +kernel
theorem dX6_write_7 : decode cX6_write 7 = .ok (.aload_n 0, 1) := by decide +kernel
theorem dX6_write_8 : decode cX6_write 8 = .ok (.ldc 70, 2) := by decide +kernel
theorem dX6_write_10 : decode cX6_write 10 = .ok (.invokevirtual 71, 3) := by decide +kernel
theorem dX6_write_13 : decode cX6_write 13 = .ok (.ireturn, 1) := by decide +kernel
theorem dX6_write_14 : decode cX6_write 14 = .ok (.aload_n 0, 1) := by decide +kernel
theorem dX6_write_15 : decode cX6_write 15 = .ok (.getfield 53, 3) := by decide +kernel
theorem dX6_write_18 : decode cX6_write 18 = .ok (.iload_n 1, 1) := by decide +kernel
theorem dX6_write_19 : decode cX6_write 19 = .ok (.aaload, 1) := by decide +kernel
theorem dX6_write_20 : decode cX6_write 20 = .ok (.invokevirtual 274, 3) := by decide +kernel
theorem dX6_write_23 : decode cX6_write 23 = .ok (.ifCond .eq 11, 3) := by decide +kernel
theorem dX6_write_26 : decode cX6_write 26 = .ok (.aload_n 0, 1) := by decide +kernel
theorem dX6_write_27 : decode cX6_write 27 = .ok (.ldc_w 261, 3) := by decide +kernel
theorem dX6_write_30 : decode cX6_write 30 = .ok (.invokevirtual 71, 3) := by decide +kernel
theorem dX6_write_33 : decode cX6_write 33 = .ok (.ireturn, 1) := by decide +kernel
theorem dX6_write_34 : decode cX6_write 34 = .ok (.iload_n 2, 1) := by decide +kernel
theorem dX6_write_35 : decode cX6_write 35 = .ok (.ifCond .lt 16, 3) := by decide +kernel
theorem dX6_write_38 : decode cX6_write 38 = .ok (.iload_n 2, 1) := by decide +kernel
theorem dX6_write_39 : decode cX6_write 39 = .ok (.aload_n 0, 1) := by decide +kernel
theorem dX6_write_40 : decode cX6_write 40 = .ok (.getfield 53, 3) := by decide +kernel
theorem dX6_write_43 : decode cX6_write 43 = .ok (.iload_n 1, 1) := by decide +kernel
theorem dX6_write_44 : decode cX6_write 44 = .ok (.aaload, 1) := by decide +kernel
theorem dX6_write_45 : decode cX6_write 45 = .ok (.getfield 273, 3) := by decide +kernel
theorem dX6_write_48 : decode cX6_write 48 = .ok (.if_icmp .lt 10, 3) := by decide +kernel
theorem dX6_write_51 : decode cX6_write 51 = .ok (.aload_n 0, 1) := by decide +kernel
theorem dX6_write_52 : decode cX6_write 52 = .ok (.ldc 70, 2) := by decide +kernel
theorem dX6_write_54 : decode cX6_write 54 = .ok (.invokevirtual 71, 3) := by decide +kernel
theorem dX6_write_57 : decode cX6_write 57 = .ok (.ireturn, 1) := by decide +kernel
theorem dX6_write_58 : decode cX6_write 58 = .ok (.aload_n 0, 1) := by decide +kernel
theorem dX6_write_59 : decode cX6_write 59 = .ok (.getfield 53, 3) := by decide +kernel
theorem dX6_write_62 : decode cX6_write 62 = .ok (.iload_n 1, 1) := by decide +kernel
theorem dX6_write_63 : decode cX6_write 63 = .ok (.aaload, 1) := by decide +kernel
theorem dX6_write_64 : decode cX6_write 64 = .ok (.iload_n 2, 1) := by decide +kernel
theorem dX6_write_65 : decode cX6_write 65 = .ok (.iload_n 3, 1) := by decide +kernel
theorem dX6_write_66 : decode cX6_write 66 = .ok (.invokevirtual 278, 3) := by decide +kernel
theorem dX6_write_69 : decode cX6_write 69 = .ok (.iconst 1, 1) := by decide +kernel
theorem dX6_write_70 : decode cX6_write 70 = .ok (.ireturn, 1) := by decide +kernel
set_option maxRecDepth 20000 in
theorem ggX6_copy_X6_isSheet : GoodIn wsX6_copy wsX6_isSheet := goodIn_r _ [14, 15, 16, 13, 17] (by decide +kernel) (by decide +kernel)
set_option maxRecDepth 20000 in
theorem gX6_copy_X6_isSheet : GoodIn wsX6_copy (va_wsS RX6 266 yX6_isSheet wsX6_isSheet) := goodIn_app (goodIn_of _ (by decide +kernel)) ggX6_copy_X6_isSheet
set_option maxRecDepth 20000 in
theorem ggX6_copy_X6_finding : GoodIn wsX6_copy wsX6_finding := goodIn_r _ [21, 1, 22, 15, 16, 13, 17, 34, 35, 36, 37, 38, 39, 40, 41, 42] (by decide +kernel) (by decide +kernel)
set_option maxRecDepth 20000 in
theorem gX6_copy_X6_finding : GoodIn wsX6_copy (wsV RX6 71 RX6 yX6_finding wsX6_finding) := goodIn_app (goodIn_of _ (by decide +kernel)) ggX6_copy_X6_finding
set_option maxRecDepth 20000 in
theorem ggX6_copy_X2_isMissing : GoodIn wsX6_copy wsX2_isMissing := goodIn_r _ [27, 28, 43, 44, 45] (by decide +kernel) (by decide +kernel)
set_option maxRecDepth 20000 in
theorem gX6_copy_X2_isMissing : GoodIn wsX6_copy (wsV RX6 274 RX2 yX2_isMissing wsX2_isMissing) := goodIn_app (goodIn_of _ (by decide +kernel)) ggX6_copy_X2_isMissing
set_option maxRecDepth 20000 in
theorem ggX6_copy_X2_hasFrom : GoodIn wsX6_copy wsX2_hasFrom := goodIn_r _ [32, 33, 43, 44, 45] (by decide +kernel) (by decide +kernel)
set_option maxRecDepth 20000 in
theorem gX6_copy_X2_hasFrom : GoodIn wsX6_copy (wsV RX6 284 RX2 yX2_hasFrom wsX2_hasFrom) := goodIn_app (goodIn_of _ (by decide +kernel)) ggX6_copy_X2_hasFrom
theorem dX6_copy_0 : decode cX6_copy 0 = .ok (.iload_n 1, 1) := by decide +kernel
theorem dX6_copy_1 : decode cX6_copy 1 = .ok (.invokestatic 266, 3) := by decide +kernel
theorem dX6_copy_4 : decode cX6_copy 4 = .ok (.ifCond .eq 10, 3) := by decide +kernel
theorem dX6_copy_7 : decode cX6_copy 7 = .ok (.iload_n 3, 1) := by decide +kernel
theorem dX6_copy_8 : decode cX6_copy 8 = .ok (.invokestatic 266, 3) := by decide +kernel
theorem dX6_copy_11 : decode cX6_copy 11 = .ok (.ifCond .ne 10, 3) := by decide +kernel
theorem dX6_copy_14 : decode cX6_copy 14 = .ok (.aload_n 0, 1) := by decide +kernel
theorem dX6_copy_15 : decode cX6_copy 15 = .ok (.ldc 70, 2) := by decide +kernel
theorem dX6_copy_17 : decode cX6_copy 17 = .ok (.invokevirtual 71, 3) := by decide +kernel
theorem dX6_copy_20 : decode cX6_copy 20 = .ok (.ireturn, 1) := by decide +kernel
theorem dX6_copy_21 : decode cX6_copy 21 = .ok (.aload_n 0, 1) := by decide +kernel
theorem dX6_copy_22 : decode cX6_copy 22 = .ok (.getfield 53, 3) := by decide +kernel
theorem dX6_copy_25 : decode cX6_copy 25 = .ok (.iload_n 1, 1) := by decide +kernel
theorem dX6_copy_26 : decode cX6_copy 26 = .ok (.aaload, 1) := by decide +kernel
theorem dX6_copy_27 : decode cX6_copy 27 = .ok (.invokevirtual 274, 3) := by decide +kernel
theorem dX6_copy_30 : decode cX6_copy 30 = .ok (.ifCond .ne 15, 3) := by decide +kernel
theorem dX6_copy_33 : decode cX6_copy 33 = .ok (.aload_n 0, 1) := by decide +kernel
theorem dX6_copy_34 : decode cX6_copy 34 = .ok (.getfield 53, 3) := by decide +kernel
theorem dX6_copy_37 : decode cX6_copy 37 = .ok (.iload_n 3, 1) := by decide +kernel
theorem dX6_copy_38 : decode cX6_copy 38 = .ok (.aaload, 1) := by decide +kernel
theorem dX6_copy_39 : decode cX6_copy 39 = .ok (.invokevirtual 274, 3) := by decide +kernel
theorem dX6_copy_42 : decode cX6_copy 42 = .ok (.ifCond .eq 11, 3) := by decide +kernel
theorem dX6_copy_45 : decode cX6_copy 45 = .ok (.aload_n 0, 1) := by decide +kernel
theorem dX6_copy_46 : decode cX6_copy 46 = .ok (.ldc_w 261, 3) := by decide +kernel
theorem dX6_copy_49 : decode cX6_copy 49 = .ok (.invokevirtual 71, 3) := by decide +kernel
theorem dX6_copy_52 : decode cX6_copy 52 = .ok (.ireturn, 1) := by decide +kernel
theorem dX6_copy_53 : decode cX6_copy 53 = .ok (.aload_n 0, 1) := by decide +kernel
theorem dX6_copy_54 : decode cX6_copy 54 = .ok (.getfield 53, 3) := by decide +kernel
theorem dX6_copy_57 : decode cX6_copy 57 = .ok (.iload_n 1, 1) := by decide +kernel
theorem dX6_copy_58 : decode cX6_copy 58 = .ok (.aaload, 1) := by decide +kernel
theorem dX6_copy_59 : decode cX6_copy 59 = .ok (.getfield 281, 3) := by decide +kernel
theorem dX6_copy_62 : decode cX6_copy 62 = .ok (.aload_n 0, 1) := by decide +kernel
theorem dX6_copy_63 : decode cX6_copy 63 = .ok (.getfield 53, 3) := by decide +kernel
theorem dX6_copy_66 : decode cX6_copy 66 = .ok (.iload_n 3, 1) := by decide +kernel
theorem dX6_copy_67 : decode cX6_copy 67 = .ok (.aaload, 1) := by decide +kernel
theorem dX6_copy_68 : decode cX6_copy 68 = .ok (.getfield 281, 3) := by decide +kernel
theorem dX6_copy_71 : decode cX6_copy 71 = .ok (.if_icmp .eq 11, 3) := by decide +kernel
theorem dX6_copy_74 : decode cX6_copy 74 = .ok (.aload_n 0, 1) := by decide +kernel
theorem dX6_copy_75 : decode cX6_copy 75 = .ok (.ldc_w 265, 3) := by decide +kernel
theorem dX6_copy_78 : decode cX6_copy 78 = .ok (.invokevirtual 71, 3) := by decide +kernel
theorem dX6_copy_81 : decode cX6_copy 81 = .ok (.ireturn, 1) := by decide +kernel
theorem dX6_copy_82 : decode cX6_copy 82 = .ok (.aload_n 0, 1) := by decide +kernel
theorem dX6_copy_83 : decode cX6_copy 83 = .ok (.getfield 53, 3) := by decide +kernel
theorem dX6_copy_86 : decode cX6_copy 86 = .ok (.iload_n 1, 1) := by decide +kernel
theorem dX6_copy_87 : decode cX6_copy 87 = .ok (.aaload, 1) := by decide +kernel
theorem dX6_copy_88 : decode cX6_copy 88 = .ok (.iload_n 2, 1) := by decide +kernel
theorem dX6_copy_89 : decode cX6_copy 89 = .ok (.iload 5, 2) := by decide +kernel
theorem dX6_copy_91 : decode cX6_copy 91 = .ok (.invokevirtual 284, 3) := by decide +kernel
theorem dX6_copy_94 : decode cX6_copy 94 = .ok (.ifCond .eq 19, 3) := by decide +kernel
theorem dX6_copy_97 : decode cX6_copy 97 = .ok (.aload_n 0, 1) := by decide +kernel
theorem dX6_copy_98 : decode cX6_copy 98 = .ok (.getfield 53, 3) := by decide +kernel
theorem dX6_copy_101 : decode cX6_copy 101 = .ok (.iload_n 3, 1) := by decide +kernel
theorem dX6_copy_102 : decode cX6_copy 102 = .ok (.aaload, 1) := by decide +kernel
theorem dX6_copy_103 : decode cX6_copy 103 = .ok (.iload 4, 2) := by decide +kernel
theorem dX6_copy_105 : decode cX6_copy 105 = .ok (.iload 5, 2) := by decide +kernel
theorem dX6_copy_107 : decode cX6_copy 107 = .ok (.invokevirtual 284, 3) := by decide +kernel
theorem dX6_copy_110 : decode cX6_copy 110 = .ok (.ifCond .ne 10, 3) := by decide +kernel
theorem dX6_copy_113 : decode cX6_copy 113 = .ok (.aload_n 0, 1) := by decide +kernel
theorem dX6_copy_114 : decode cX6_copy 114 = .ok (.ldc 70, 2) := by decide +kernel
theorem dX6_copy_116 : decode cX6_copy 116 = .ok (.invokevirtual 71, 3) := by decide +kernel
theorem dX6_copy_119 : decode cX6_copy 119 = .ok (.ireturn, 1) := by decide +kernel
theorem dX6_copy_120 : decode cX6_copy 120 = .ok (.aload_n 0, 1) := by decide +kernel
theorem dX6_copy_121 : decode cX6_copy 121 = .ok (.getfield 53, 3) := by decide +kernel
theorem dX6_copy_124 : decode cX6_copy 124 = .ok (.iload_n 1, 1) := by decide +kernel
theorem dX6_copy_125 : decode cX6_copy 125 = .ok (.aaload, 1) := by decide +kernel
theorem dX6_copy_126 : decode cX6_copy 126 = .ok (.getfield 287, 3) := by decide +kernel
theorem dX6_copy_129 : decode cX6_copy 129 = .ok (.iload_n 2, 1) := by decide +kernel
theorem dX6_copy_130 : decode cX6_copy 130 = .ok (.aload_n 0, 1) := by decide +kernel
theorem dX6_copy_131 : decode cX6_copy 131 = .ok (.getfield 53, 3) := by decide +kernel
theorem dX6_copy_134 : decode cX6_copy 134 = .ok (.iload_n 3, 1) := by decide +kernel
theorem dX6_copy_135 : decode cX6_copy 135 = .ok (.aaload, 1) := by decide +kernel
theorem dX6_copy_136 : decode cX6_copy 136 = .ok (.getfield 287, 3) := by decide +kernel
theorem dX6_copy_139 : decode cX6_copy 139 = .ok (.iload 4, 2) := by decide +kernel
theorem dX6_copy_141 : decode cX6_copy 141 = .ok (.iload 5, 2) := by decide +kernel
theorem dX6_copy_143 : decode cX6_copy 143 = .ok (.invokestatic 290, 3) := by decide +kernel
theorem dX6_copy_146 : decode cX6_copy 146 = .ok (.iload 5, 2) := by decide +kernel
theorem dX6_copy_148 : decode cX6_copy 148 = .ok (.ireturn, 1) := by decide +kernel
set_option maxRecDepth 20000 in
theorem ggX6_load_X6_isSheet : GoodIn wsX6_load wsX6_isSheet := goodIn_r _ [11, 12, 13, 10, 14] (by decide +kernel) (by decide +kernel)
set_option maxRecDepth 20000 in
theorem gX6_load_X6_isSheet : GoodIn wsX6_load (va_wsS RX6 266 yX6_isSheet wsX6_isSheet) := goodIn_app (goodIn_of _ (by decide +kernel)) ggX6_load_X6_isSheet
set_option maxRecDepth 20000 in
theorem ggX6_load_X6_finding : GoodIn wsX6_load wsX6_finding := goodIn_r _ [18, 1, 19, 12, 13, 10, 14, 35, 36, 37, 38, 39, 40, 41, 42, 43] (by decide +kernel) (by decide +kernel)
set_option maxRecDepth 20000 in
theorem gX6_load_X6_finding : GoodIn wsX6_load (wsV RX6 71 RX6 yX6_finding wsX6_finding) := goodIn_app (goodIn_of _ (by decide +kernel)) ggX6_load_X6_finding
set_option maxRecDepth 20000 in
theorem ggX6_load_X2_isMissing : GoodIn wsX6_load wsX2_isMissing := goodIn_r _ [24, 25, 44, 45, 46] (by decide +kernel) (by decide +kernel)
set_option maxRecDepth 20000 in
theorem gX6_load_X2_isMissing : GoodIn wsX6_load (wsV RX6 274 RX2 yX2_isMissing wsX2_isMissing) := goodIn_app (goodIn_of _ (by decide +kernel)) ggX6_load_X2_isMissing
set_option maxRecDepth 20000 in
theorem ggX6_load_X6_isBit : GoodIn wsX6_load wsX6_isBit := goodIn_r _ [28, 12, 13, 10, 14] (by decide +kernel) (by decide +kernel)
set_option maxRecDepth 20000 in
theorem gX6_load_X6_isBit : GoodIn wsX6_load (va_wsS RX6 122 yX6_isBit wsX6_isBit) := goodIn_app (goodIn_of _ (by decide +kernel)) ggX6_load_X6_isBit
set_option maxRecDepth 20000 in
theorem ggX6_load_X0_giveWord : GoodIn wsX6_load wsX0_giveWord := goodIn_r _ [33, 34, 47, 48, 49, 50, 51, 52, 53, 54, 55, 56] (by decide +kernel) (by decide +kernel)
set_option maxRecDepth 20000 in
theorem gX6_load_X0_giveWord : GoodIn wsX6_load (wsV RX6 125 RX0 yX0_giveWord wsX0_giveWord) := goodIn_app (goodIn_of _ (by decide +kernel)) ggX6_load_X0_giveWord
theorem dX6_load_0 : decode cX6_load 0 = .ok (.iload_n 1, 1) := by decide +kernel
theorem dX6_load_1 : decode cX6_load 1 = .ok (.invokestatic 266, 3) := by decide +kernel
theorem dX6_load_4 : decode cX6_load 4 = .ok (.ifCond .ne 10, 3) := by decide +kernel
theorem dX6_load_7 : decode cX6_load 7 = .ok (.aload_n 0, 1) := by decide +kernel
theorem dX6_load_8 : decode cX6_load 8 = .ok (.ldc 70, 2) := by decide +kernel
theorem dX6_load_10 : decode cX6_load 10 = .ok (.invokevirtual 71, 3) := by decide +kernel
theorem dX6_load_13 : decode cX6_load 13 = .ok (.ireturn, 1) := by decide +kernel
theorem dX6_load_14 : decode cX6_load 14 = .ok (.aload_n 0, 1) := by decide +kernel
theorem dX6_load_15 : decode cX6_load 15 = .ok (.getfield 53, 3) := by decide +kernel
theorem dX6_load_18 : decode cX6_load 18 = .ok (.iload_n 1, 1) := by decide +kernel
theorem dX6_load_19 : decode cX6_load 19 = .ok (.aaload, 1) := by decide +kernel
theorem dX6_load_20 : decode cX6_load 20 = .ok (.invokevirtual 274, 3) := by decide +kernel
theorem dX6_load_23 : decode cX6_load 23 = .ok (.ifCond .eq 11, 3) := by decide +kernel
theorem dX6_load_26 : decode cX6_load 26 = .ok (.aload_n 0, 1) := by decide +kernel
theorem dX6_load_27 : decode cX6_load 27 = .ok (.ldc_w 261, 3) := by decide +kernel
theorem dX6_load_30 : decode cX6_load 30 = .ok (.invokevirtual 71, 3) := by decide +kernel
theorem dX6_load_33 : decode cX6_load 33 = .ok (.ireturn, 1) := by decide +kernel
theorem dX6_load_34 : decode cX6_load 34 = .ok (.iconst 0, 1) := by decide +kernel
theorem dX6_load_35 : decode cX6_load 35 = .ok (.istore_n 2, 1) := by decide +kernel
theorem dX6_load_36 : decode cX6_load 36 = .ok (.iload_n 2, 1) := by decide +kernel
theorem dX6_load_37 : decode cX6_load 37 = .ok (.aload_n 0, 1) := by decide +kernel
theorem dX6_load_38 : decode cX6_load 38 = .ok (.getfield 53, 3) := by decide +kernel
theorem dX6_load_41 : decode cX6_load 41 = .ok (.iload_n 1, 1) := by decide +kernel
theorem dX6_load_42 : decode cX6_load 42 = .ok (.aaload, 1) := by decide +kernel
theorem dX6_load_43 : decode cX6_load 43 = .ok (.getfield 273, 3) := by decide +kernel
theorem dX6_load_46 : decode cX6_load 46 = .ok (.if_icmp .ge 56, 3) := by decide +kernel
theorem dX6_load_49 : decode cX6_load 49 = .ok (.iload_n 2, 1) := by decide +kernel
theorem dX6_load_50 : decode cX6_load 50 = .ok (.aload_n 0, 1) := by decide +kernel
theorem dX6_load_51 : decode cX6_load 51 = .ok (.getfield 12, 3) := by decide +kernel
theorem dX6_load_54 : decode cX6_load 54 = .ok (.getfield 83, 3) := by decide +kernel
theorem dX6_load_57 : decode cX6_load 57 = .ok (.if_icmp .ge 45, 3) := by decide +kernel
theorem dX6_load_60 : decode cX6_load 60 = .ok (.aload_n 0, 1) := by decide +kernel
theorem dX6_load_61 : decode cX6_load 61 = .ok (.getfield 53, 3) := by decide +kernel
theorem dX6_load_64 : decode cX6_load 64 = .ok (.iload_n 1, 1) := by decide +kernel
theorem dX6_load_65 : decode cX6_load 65 = .ok (.aaload, 1) := by decide +kernel
theorem dX6_load_66 : decode cX6_load 66 = .ok (.getfield 287, 3) := by decide +kernel
theorem dX6_load_69 : decode cX6_load 69 = .ok (.iload_n 2, 1) := by decide +kernel
theorem dX6_load_70 : decode cX6_load 70 = .ok (.iaload, 1) := by decide +kernel
theorem dX6_load_71 : decode cX6_load 71 = .ok (.invokestatic 122, 3) := by decide +kernel
theorem dX6_load_74 : decode cX6_load 74 = .ok (.ifCond .eq 28, 3) := by decide +kernel
theorem dX6_load_77 : decode cX6_load 77 = .ok (.aload_n 0, 1) := by decide +kernel
theorem dX6_load_78 : decode cX6_load 78 = .ok (.getfield 12, 3) := by decide +kernel
theorem dX6_load_81 : decode cX6_load 81 = .ok (.iload_n 2, 1) := by decide +kernel
theorem dX6_load_82 : decode cX6_load 82 = .ok (.aload_n 0, 1) := by decide +kernel
theorem dX6_load_83 : decode cX6_load 83 = .ok (.getfield 53, 3) := by decide +kernel
theorem dX6_load_86 : decode cX6_load 86 = .ok (.iload_n 1, 1) := by decide +kernel
theorem dX6_load_87 : decode cX6_load 87 = .ok (.aaload, 1) := by decide +kernel
theorem dX6_load_88 : decode cX6_load 88 = .ok (.getfield 287, 3) := by decide +kernel
theorem dX6_load_91 : decode cX6_load 91 = .ok (.iload_n 2, 1) := by decide +kernel
theorem dX6_load_92 : decode cX6_load 92 = .ok (.iaload, 1) := by decide +kernel
theorem dX6_load_93 : decode cX6_load 93 = .ok (.invokevirtual 125, 3) := by decide +kernel
theorem dX6_load_96 : decode cX6_load 96 = .ok (.iinc 2 1, 3) := by decide +kernel
theorem dX6_load_99 : decode cX6_load 99 = .ok (.goto (-63), 3) := by decide +kernel
theorem dX6_load_102 : decode cX6_load 102 = .ok (.iload_n 2, 1) := by decide +kernel
theorem dX6_load_103 : decode cX6_load 103 = .ok (.ireturn, 1) := by decide +kernel
set_option maxRecDepth 20000 in
theorem ggX6_judge_X6_isSheet : GoodIn wsX6_judge wsX6_isSheet := goodIn_r _ [12, 13, 14, 11, 15] (by decide +kernel) (by decide +kernel)
set_option maxRecDepth 20000 in
theorem gX6_judge_X6_isSheet : GoodIn wsX6_judge (va_wsS RX6 266 yX6_isSheet wsX6_isSheet) := goodIn_app (goodIn_of _ (by decide +kernel)) ggX6_judge_X6_isSheet
set_option maxRecDepth 20000 in
theorem ggX6_judge_X6_finding : GoodIn wsX6_judge wsX6_finding := goodIn_r _ [19, 1, 20, 13, 14, 11, 15, 87, 88, 89, 90, 91, 92, 93, 94, 95] (by decide +kernel) (by decide +kernel)
set_option maxRecDepth 20000 in
theorem gX6_judge_X6_finding : GoodIn wsX6_judge (wsV RX6 71 RX6 yX6_finding wsX6_finding) := goodIn_app (goodIn_of _ (by decide +kernel)) ggX6_judge_X6_finding
set_option maxRecDepth 20000 in
theorem ggX6_judge_X2_isMissing : GoodIn wsX6_judge wsX2_isMissing := goodIn_r _ [25, 26, 106, 107, 108] (by decide +kernel) (by decide +kernel)
set_option maxRecDepth 20000 in
theorem gX6_judge_X2_isMissing : GoodIn wsX6_judge (wsV RX6 274 RX2 yX2_isMissing wsX2_isMissing) := goodIn_app (goodIn_of _ (by decide +kernel)) ggX6_judge_X2_isMissing
set_option maxRecDepth 20000 in
theorem ggX6_judge_X1_listen : GoodIn wsX6_judge wsX1_listen := goodIn_r _ [31, 32, 33, 34, 35, 36, 30, 37, 38, 39, 40, 41, 42, 43, 44, 45, 46, 47, 48, 49, 50, 51, 52, 53, 54, 55, 56, 57, 58, 59, 60, 61, 62, 63, 64, 65, 66, 67, 68, 69, 70, 71, 109, 110, 111, 112, 96, 97, 98, 99, 100, 101, 102, 103, 104, 105] (by decide +kernel) (by decide +kernel)
set_option maxRecDepth 20000 in
theorem gX6_judge_X1_listen : GoodIn wsX6_judge (wsV RX6 95 RX1 yX1_listen wsX1_listen) := goodIn_app (goodIn_of _ (by decide +kernel)) ggX6_judge_X1_listen
set_option maxRecDepth 20000 in
theorem ggX6_judge_X1_nextSaid : GoodIn wsX6_judge wsX1_nextSaid := goodIn_r _ [75, 32, 33, 76, 77, 78, 30, 79, 67, 57, 56, 109, 110, 111, 112, 96, 97, 98, 99, 100, 101, 102, 103, 104, 105] (by decide +kernel) (by decide +kernel)
set_option maxRecDepth 20000 in
theorem gX6_judge_X1_nextSaid : GoodIn wsX6_judge (wsV RX6 296 RX1 yX1_nextSaid wsX1_nextSaid) := goodIn_app (goodIn_of _ (by decide +kernel)) ggX6_judge_X1_nextSaid
set_option maxRecDepth 20000 in
theorem ggX6_judge_J6_bitCount_0f7a4 : GoodIn wsX6_judge wsJ6_bitCount_0f7a4 := goodIn_r _ [83, 84, 85, 86] (by decide +kernel) (by decide +kernel)
set_option maxRecDepth 20000 in
theorem gX6_judge_J6_bitCount_0f7a4 : GoodIn wsX6_judge (va_wsS RX6 299 yJ6_bitCount_0f7a4 wsJ6_bitCount_0f7a4) := goodIn_app (goodIn_of _ (by decide +kernel)) ggX6_judge_J6_bitCount_0f7a4
theorem dX6_judge_0 : decode cX6_judge 0 = .ok (.iload_n 1, 1) := by decide +kernel
theorem dX6_judge_1 : decode cX6_judge 1 = .ok (.invokestatic 266, 3) := by decide +kernel
theorem dX6_judge_4 : decode cX6_judge 4 = .ok (.ifCond .ne 10, 3) := by decide +kernel
theorem dX6_judge_7 : decode cX6_judge 7 = .ok (.aload_n 0, 1) := by decide +kernel
theorem dX6_judge_8 : decode cX6_judge 8 = .ok (.ldc 70, 2) := by decide +kernel
theorem dX6_judge_10 : decode cX6_judge 10 = .ok (.invokevirtual 71, 3) := by decide +kernel
theorem dX6_judge_13 : decode cX6_judge 13 = .ok (.ireturn, 1) := by decide +kernel
theorem dX6_judge_14 : decode cX6_judge 14 = .ok (.aload_n 0, 1) := by decide +kernel
theorem dX6_judge_15 : decode cX6_judge 15 = .ok (.getfield 53, 3) := by decide +kernel
theorem dX6_judge_18 : decode cX6_judge 18 = .ok (.iload_n 1, 1) := by decide +kernel
theorem dX6_judge_19 : decode cX6_judge 19 = .ok (.aaload, 1) := by decide +kernel
theorem dX6_judge_20 : decode cX6_judge 20 = .ok (.invokevirtual 274, 3) := by decide +kernel
theorem dX6_judge_23 : decode cX6_judge 23 = .ok (.ifCond .eq 11, 3) := by decide +kernel
theorem dX6_judge_26 : decode cX6_judge 26 = .ok (.aload_n 0, 1) := by decide +kernel
theorem dX6_judge_27 : decode cX6_judge 27 = .ok (.ldc_w 261, 3) := by decide +kernel
theorem dX6_judge_30 : decode cX6_judge 30 = .ok (.invokevirtual 71, 3) := by decide +kernel
theorem dX6_judge_33 : decode cX6_judge 33 = .ok (.ireturn, 1) := by decide +kernel
theorem dX6_judge_34 : decode cX6_judge 34 = .ok (.aload_n 0, 1) := by decide +kernel
theorem dX6_judge_35 : decode cX6_judge 35 = .ok (.getfield 24, 3) := by decide +kernel
theorem dX6_judge_38 : decode cX6_judge 38 = .ok (.invokevirtual 95, 3) := by decide +kernel
theorem dX6_judge_41 : decode cX6_judge 41 = .ok (.aload_n 0, 1) := by decide +kernel
theorem dX6_judge_42 : decode cX6_judge 42 = .ok (.getfield 12, 3) := by decide +kernel
theorem dX6_judge_45 : decode cX6_judge 45 = .ok (.getfield 110, 3) := by decide +kernel
theorem dX6_judge_48 : decode cX6_judge 48 = .ok (.istore_n 2, 1) := by decide +kernel
theorem dX6_judge_49 : decode cX6_judge 49 = .ok (.iconst 0, 1) := by decide +kernel
theorem dX6_judge_50 : decode cX6_judge 50 = .ok (.istore_n 3, 1) := by decide +kernel
theorem dX6_judge_51 : decode cX6_judge 51 = .ok (.iload_n 3, 1) := by decide +kernel
theorem dX6_judge_52 : decode cX6_judge 52 = .ok (.aload_n 0, 1) := by decide +kernel
theorem dX6_judge_53 : decode cX6_judge 53 = .ok (.getfield 53, 3) := by decide +kernel
theorem dX6_judge_56 : decode cX6_judge 56 = .ok (.iload_n 1, 1) := by decide +kernel
theorem dX6_judge_57 : decode cX6_judge 57 = .ok (.aaload, 1) := by decide +kernel
theorem dX6_judge_58 : decode cX6_judge 58 = .ok (.getfield 273, 3) := by decide +kernel
theorem dX6_judge_61 : decode cX6_judge 61 = .ok (.if_icmp .ge 40, 3) := by decide +kernel
theorem dX6_judge_64 : decode cX6_judge 64 = .ok (.aload_n 0, 1) := by decide +kernel
theorem dX6_judge_65 : decode cX6_judge 65 = .ok (.getfield 24, 3) := by decide +kernel
theorem dX6_judge_68 : decode cX6_judge 68 = .ok (.iload_n 2, 1) := by decide +kernel
theorem dX6_judge_69 : decode cX6_judge 69 = .ok (.invokevirtual 296, 3) := by decide +kernel
theorem dX6_judge_72 : decode cX6_judge 72 = .ok (.istore_n 2, 1) := by decide +kernel
theorem dX6_judge_73 : decode cX6_judge 73 = .ok (.aload_n 0, 1) := by decide +kernel
theorem dX6_judge_74 : decode cX6_judge 74 = .ok (.getfield 53, 3) := by decide +kernel
theorem dX6_judge_77 : decode cX6_judge 77 = .ok (.iload_n 1, 1) := by decide +kernel
theorem dX6_judge_78 : decode cX6_judge 78 = .ok (.aaload, 1) := by decide +kernel
theorem dX6_judge_79 : decode cX6_judge 79 = .ok (.getfield 287, 3) := by decide +kernel
theorem dX6_judge_82 : decode cX6_judge 82 = .ok (.iload_n 3, 1) := by decide +kernel
theorem dX6_judge_83 : decode cX6_judge 83 = .ok (.iaload, 1) := by decide +kernel
theorem dX6_judge_84 : decode cX6_judge 84 = .ok (.iload_n 2, 1) := by decide +kernel
theorem dX6_judge_85 : decode cX6_judge 85 = .ok (.invokestatic 299, 3) := by decide +kernel
theorem dX6_judge_88 : decode cX6_judge 88 = .ok (.if_icmp .eq 7, 3) := by decide +kernel
theorem dX6_judge_91 : decode cX6_judge 91 = .ok (.iconst 1, 1) := by decide +kernel
theorem dX6_judge_92 : decode cX6_judge 92 = .ok (.iload_n 3, 1) := by decide +kernel
theorem dX6_judge_93 : decode cX6_judge 93 = .ok (.iadd, 1) := by decide +kernel
theorem dX6_judge_94 : decode cX6_judge 94 = .ok (.ireturn, 1) := by decide +kernel
theorem dX6_judge_95 : decode cX6_judge 95 = .ok (.iinc 3 1, 3) := by decide +kernel
theorem dX6_judge_98 : decode cX6_judge 98 = .ok (.goto (-47), 3) := by decide +kernel
theorem dX6_judge_101 : decode cX6_judge 101 = .ok (.iconst 0, 1) := by decide +kernel
theorem dX6_judge_102 : decode cX6_judge 102 = .ok (.ireturn, 1) := by decide +kernel
set_option maxRecDepth 20000 in
theorem ggX6_image_X0_become : GoodIn wsX6_image wsX0_become := goodIn_r _ [8, 9, 10, 11, 12, 13, 14, 15, 16, 17, 18, 19, 20, 21, 22, 32, 33, 34, 35, 36, 37, 38, 39, 40, 41] (by decide +kernel) (by decide +kernel)
set_option maxRecDepth 20000 in
theorem gX6_image_X0_become : GoodIn wsX6_image (wsV RX6 304 RX0 yX0_become wsX0_become) := goodIn_app (goodIn_of _ (by decide +kernel)) ggX6_image_X0_become
theorem dX6_image_0 : decode cX6_image 0 = .ok (.aload_n 0, 1) := by decide +kernel
theorem dX6_image_1 : decode cX6_image 1 = .ok (.getfield 16, 3) := by decide +kernel
theorem dX6_image_4 : decode cX6_image 4 = .ok (.aload_n 0, 1) := by decide +kernel
theorem dX6_image_5 : decode cX6_image 5 = .ok (.getfield 12, 3) := by decide +kernel
theorem dX6_image_8 : decode cX6_image 8 = .ok (.invokevirtual 304, 3) := by decide +kernel
theorem dX6_image_11 : decode cX6_image 11 = .ok (.aload_n 0, 1) := by decide +kernel
theorem dX6_image_12 : decode cX6_image 12 = .ok (.iconst 1, 1) := by decide +kernel
theorem dX6_image_13 : decode cX6_image 13 = .ok (.putfield 307, 3) := by decide +kernel
theorem dX6_image_16 : decode cX6_image 16 = .ok (.iconst 1, 1) := by decide +kernel
theorem dX6_image_17 : decode cX6_image 17 = .ok (.ireturn, 1) := by decide +kernel
set_option maxRecDepth 20000 in
theorem ggX6_undo_X6_finding : GoodIn wsX6_undo wsX6_finding := goodIn_r _ [10, 11, 12, 13, 14, 9, 15, 35, 36, 37, 38, 39, 40, 41, 42, 43] (by decide +kernel) (by decide +kernel)
set_option maxRecDepth 20000 in
theorem gX6_undo_X6_finding : GoodIn wsX6_undo (wsV RX6 71 RX6 yX6_finding wsX6_finding) := goodIn_app (goodIn_of _ (by decide +kernel)) ggX6_undo_X6_finding
set_option maxRecDepth 20000 in
theorem ggX6_undo_X0_become : GoodIn wsX6_undo wsX0_become := goodIn_r _ [20, 21, 22, 23, 24, 25, 26, 27, 28, 29, 30, 31, 32, 33, 34, 44, 45, 46, 47, 48, 49, 50, 51, 52, 53] (by decide +kernel) (by decide +kernel)
set_option maxRecDepth 20000 in
theorem gX6_undo_X0_become : GoodIn wsX6_undo (wsV RX6 304 RX0 yX0_become wsX0_become) := goodIn_app (goodIn_of _ (by decide +kernel)) ggX6_undo_X0_become
theorem dX6_undo_0 : decode cX6_undo 0 = .ok (.aload_n 0, 1) := by decide +kernel
theorem dX6_undo_1 : decode cX6_undo 1 = .ok (.getfield 307, 3) := by decide +kernel
theorem dX6_undo_4 : decode cX6_undo 4 = .ok (.ifCond .ne 10, 3) := by decide +kernel
theorem dX6_undo_7 : decode cX6_undo 7 = .ok (.aload_n 0, 1) := by decide +kernel
theorem dX6_undo_8 : decode cX6_undo 8 = .ok (.ldc 148, 2) := by decide +kernel
theorem dX6_undo_10 : decode cX6_undo 10 = .ok (.invokevirtual 71, 3) := by decide +kernel
theorem dX6_undo_13 : decode cX6_undo 13 = .ok (.ireturn, 1) := by decide +kernel
theorem dX6_undo_14 : decode cX6_undo 14 = .ok (.aload_n 0, 1) := by decide +kernel
theorem dX6_undo_15 : decode cX6_undo 15 = .ok (.getfield 12, 3) := by decide +kernel
theorem dX6_undo_18 : decode cX6_undo 18 = .ok (.aload_n 0, 1) := by decide +kernel
theorem dX6_undo_19 : decode cX6_undo 19 = .ok (.getfield 16, 3) := by decide +kernel
theorem dX6_undo_22 : decode cX6_undo 22 = .ok (.invokevirtual 304, 3) := by decide +kernel
theorem dX6_undo_25 : decode cX6_undo 25 = .ok (.aload_n 0, 1) := by decide +kernel
theorem dX6_undo_26 : decode cX6_undo 26 = .ok (.getfield 12, 3) := by decide +kernel
theorem dX6_undo_29 : decode cX6_undo 29 = .ok (.getfield 161, 3) := by decide +kernel
theorem dX6_undo_32 : decode cX6_undo 32 = .ok (.ireturn, 1) := by decide +kernel
theorem dX6_tear_0 : decode cX6_tear 0 = .ok (.aload_n 0, 1) := by decide +kernel
theorem dX6_tear_1 : decode cX6_tear 1 = .ok (.getfield 307, 3) := by decide +kernel
theorem dX6_tear_4 : decode cX6_tear 4 = .ok (.ifCond .eq 7, 3) := by decide +kernel
theorem dX6_tear_7 : decode cX6_tear 7 = .ok (.iconst 1, 1) := by decide +kernel
theorem dX6_tear_8 : decode cX6_tear 8 = .ok (.goto 4, 3) := by decide +kernel
theorem dX6_tear_11 : decode cX6_tear 11 = .ok (.iconst 0, 1) := by decide +kernel
theorem dX6_tear_12 : decode cX6_tear 12 = .ok (.istore_n 1, 1) := by decide +kernel
theorem dX6_tear_13 : decode cX6_tear 13 = .ok (.aload_n 0, 1) := by decide +kernel
theorem dX6_tear_14 : decode cX6_tear 14 = .ok (.iconst 0, 1) := by decide +kernel
theorem dX6_tear_15 : decode cX6_tear 15 = .ok (.putfield 307, 3) := by decide +kernel
theorem dX6_tear_18 : decode cX6_tear 18 = .ok (.iload_n 1, 1) := by decide +kernel
theorem dX6_tear_19 : decode cX6_tear 19 = .ok (.ireturn, 1) := by decide +kernel
set_option maxRecDepth 20000 in
theorem ggX6_count_X0_vote : GoodIn wsX6_count wsX0_vote := goodIn_r _ [14, 15, 16, 17, 18, 19, 20, 21, 22, 46, 47, 48, 49, 50, 51, 52, 53, 54, 55] (by decide +kernel) (by decide +kernel)
set_option maxRecDepth 20000 in
theorem gX6_count_X0_vote : GoodIn wsX6_count (wsV RX6 167 RX0 yX0_vote wsX0_vote) := goodIn_app (goodIn_of _ (by decide +kernel)) ggX6_count_X0_vote
set_option maxRecDepth 20000 in
theorem ggX6_count_X0_countHolding : GoodIn wsX6_count wsX0_countHolding := goodIn_r _ [26, 27, 46, 47, 48, 49, 50, 51, 52, 53, 54, 55] (by decide +kernel) (by decide +kernel)
set_option maxRecDepth 20000 in
theorem gX6_count_X0_countHolding : GoodIn wsX6_count (wsV RX6 310 RX0 yX0_countHolding wsX0_countHolding) := goodIn_app (goodIn_of _ (by decide +kernel)) ggX6_count_X0_countHolding
set_option maxRecDepth 20000 in
theorem ggX6_count_X6_finding : GoodIn wsX6_count wsX6_finding := goodIn_r _ [32, 9, 33, 34, 35, 31, 36, 37, 38, 39, 40, 41, 42, 43, 44, 45] (by decide +kernel) (by decide +kernel)
set_option maxRecDepth 20000 in
theorem gX6_count_X6_finding : GoodIn wsX6_count (wsV RX6 71 RX6 yX6_finding wsX6_finding) := goodIn_app (goodIn_of _ (by decide +kernel)) ggX6_count_X6_finding
theorem dX6_count_0 : decode cX6_count 0 = .ok (.iload_n 1, 1) := by decide +kernel
theorem dX6_count_1 : decode cX6_count 1 = .ok (.tableswitch 111 0 7 #[47, 55, 63, 71, 79, 87, 95, 103], 47) := by decide +kernel
theorem dX6_count_48 : decode cX6_count 48 = .ok (.aload_n 0, 1) := by decide +kernel
theorem dX6_count_49 : decode cX6_count 49 = .ok (.getfield 12, 3) := by decide +kernel
theorem dX6_count_52 : decode cX6_count 52 = .ok (.getfield 161, 3) := by decide +kernel
theorem dX6_count_55 : decode cX6_count 55 = .ok (.ireturn, 1) := by decide +kernel
theorem dX6_count_56 : decode cX6_count 56 = .ok (.aload_n 0, 1) := by decide +kernel
theorem dX6_count_57 : decode cX6_count 57 = .ok (.getfield 12, 3) := by decide +kernel
theorem dX6_count_60 : decode cX6_count 60 = .ok (.getfield 83, 3) := by decide +kernel
theorem dX6_count_63 : decode cX6_count 63 = .ok (.ireturn, 1) := by decide +kernel
theorem dX6_count_64 : decode cX6_count 64 = .ok (.aload_n 0, 1) := by decide +kernel
theorem dX6_count_65 : decode cX6_count 65 = .ok (.getfield 12, 3) := by decide +kernel
theorem dX6_count_68 : decode cX6_count 68 = .ok (.invokevirtual 167, 3) := by decide +kernel
theorem dX6_count_71 : decode cX6_count 71 = .ok (.ireturn, 1) := by decide +kernel
theorem dX6_count_72 : decode cX6_count 72 = .ok (.aload_n 0, 1) := by decide +kernel
theorem dX6_count_73 : decode cX6_count 73 = .ok (.getfield 12, 3) := by decide +kernel
theorem dX6_count_76 : decode cX6_count 76 = .ok (.getfield 138, 3) := by decide +kernel
theorem dX6_count_79 : decode cX6_count 79 = .ok (.ireturn, 1) := by decide +kernel
theorem dX6_count_80 : decode cX6_count 80 = .ok (.aload_n 0, 1) := by decide +kernel
theorem dX6_count_81 : decode cX6_count 81 = .ok (.getfield 12, 3) := by decide +kernel
theorem dX6_count_84 : decode cX6_count 84 = .ok (.getfield 141, 3) := by decide +kernel
theorem dX6_count_87 : decode cX6_count 87 = .ok (.ireturn, 1) := by decide +kernel
theorem dX6_count_88 : decode cX6_count 88 = .ok (.aload_n 0, 1) := by decide +kernel
theorem dX6_count_89 : decode cX6_count 89 = .ok (.getfield 47, 3) := by decide +kernel
theorem dX6_count_92 : decode cX6_count 92 = .ok (.getfield 245, 3) := by decide +kernel
theorem dX6_count_95 : decode cX6_count 95 = .ok (.ireturn, 1) := by decide +kernel
theorem dX6_count_96 : decode cX6_count 96 = .ok (.aload_n 0, 1) := by decide +kernel
theorem dX6_count_97 : decode cX6_count 97 = .ok (.getfield 12, 3) := by decide +kernel
theorem dX6_count_100 : decode cX6_count 100 = .ok (.getfield 242, 3) := by decide +kernel
theorem dX6_count_103 : decode cX6_count 103 = .ok (.ireturn, 1) := by decide +kernel
theorem dX6_count_104 : decode cX6_count 104 = .ok (.aload_n 0, 1) := by decide +kernel
theorem dX6_count_105 : decode cX6_count 105 = .ok (.getfield 12, 3) := by decide +kernel
theorem dX6_count_108 : decode cX6_count 108 = .ok (.invokevirtual 310, 3) := by decide +kernel
theorem dX6_count_111 : decode cX6_count 111 = .ok (.ireturn, 1) := by decide +kernel
theorem dX6_count_112 : decode cX6_count 112 = .ok (.aload_n 0, 1) := by decide +kernel
theorem dX6_count_113 : decode cX6_count 113 = .ok (.ldc 70, 2) := by decide +kernel
theorem dX6_count_115 : decode cX6_count 115 = .ok (.invokevirtual 71, 3) := by decide +kernel
theorem dX6_count_118 : decode cX6_count 118 = .ok (.ireturn, 1) := by decide +kernel
set_option maxRecDepth 20000 in
theorem ggX6_status_X6_isFrom : GoodIn wsX6_status wsX6_isFrom := goodIn_r _ [6] (by decide +kernel) (by decide +kernel)
set_option maxRecDepth 20000 in
theorem gX6_status_X6_isFrom : GoodIn wsX6_status (va_wsS RX6 156 yX6_isFrom wsX6_isFrom) := goodIn_app (goodIn_of _ (by decide +kernel)) ggX6_status_X6_isFrom
set_option maxRecDepth 20000 in
theorem ggX6_status_X6_finding : GoodIn wsX6_status wsX6_finding := goodIn_r _ [10, 2, 1, 3, 4, 5, 6, 11, 12, 13, 14, 15, 16, 17, 18, 19] (by decide +kernel) (by decide +kernel)
set_option maxRecDepth 20000 in
theorem gX6_status_X6_finding : GoodIn wsX6_status (wsV RX6 71 RX6 yX6_finding wsX6_finding) := goodIn_app (goodIn_of _ (by decide +kernel)) ggX6_status_X6_finding
theorem dX6_status_0 : decode cX6_status 0 = .ok (.iload_n 1, 1) := by decide +kernel
theorem dX6_status_1 : decode cX6_status 1 = .ok (.iconst (-1), 1) := by decide +kernel
theorem dX6_status_2 : decode cX6_status 2 = .ok (.if_icmp .ne 30, 3) := by decide +kernel
theorem dX6_status_5 : decode cX6_status 5 = .ok (.iconst 0, 1) := by decide +kernel
theorem dX6_status_6 : decode cX6_status 6 = .ok (.istore_n 2, 1) := by decide +kernel
theorem dX6_status_7 : decode cX6_status 7 = .ok (.iconst 0, 1) := by decide +kernel
theorem dX6_status_8 : decode cX6_status 8 = .ok (.istore_n 3, 1) := by decide +kernel
theorem dX6_status_9 : decode cX6_status 9 = .ok (.iload_n 3, 1) := by decide +kernel
theorem dX6_status_10 : decode cX6_status 10 = .ok (.bipush 7, 2) := by decide +kernel
theorem dX6_status_12 : decode cX6_status 12 = .ok (.if_icmp .ge 18, 3) := by decide +kernel
theorem dX6_status_15 : decode cX6_status 15 = .ok (.iload_n 2, 1) := by decide +kernel
theorem dX6_status_16 : decode cX6_status 16 = .ok (.aload_n 0, 1) := by decide +kernel
theorem dX6_status_17 : decode cX6_status 17 = .ok (.getfield 57, 3) := by decide +kernel
theorem dX6_status_20 : decode cX6_status 20 = .ok (.iload_n 3, 1) := by decide +kernel
theorem dX6_status_21 : decode cX6_status 21 = .ok (.iaload, 1) := by decide +kernel
theorem dX6_status_22 : decode cX6_status 22 = .ok (.iadd, 1) := by decide +kernel
theorem dX6_status_23 : decode cX6_status 23 = .ok (.istore_n 2, 1) := by decide +kernel
theorem dX6_status_24 : decode cX6_status 24 = .ok (.iinc 3 1, 3) := by decide +kernel
theorem dX6_status_27 : decode cX6_status 27 = .ok (.goto (-18), 3) := by decide +kernel
theorem dX6_status_30 : decode cX6_status 30 = .ok (.iload_n 2, 1) := by decide +kernel
theorem dX6_status_31 : decode cX6_status 31 = .ok (.ireturn, 1) := by decide +kernel
theorem dX6_status_32 : decode cX6_status 32 = .ok (.iconst 0, 1) := by decide +kernel
theorem dX6_status_33 : decode cX6_status 33 = .ok (.iload_n 1, 1) := by decide +kernel
theorem dX6_status_34 : decode cX6_status 34 = .ok (.bipush 6, 2) := by decide +kernel
theorem dX6_status_36 : decode cX6_status 36 = .ok (.invokestatic 156, 3) := by decide +kernel
theorem dX6_status_39 : decode cX6_status 39 = .ok (.ifCond .eq 12, 3) := by decide +kernel
theorem dX6_status_42 : decode cX6_status 42 = .ok (.aload_n 0, 1) := by decide +kernel
theorem dX6_status_43 : decode cX6_status 43 = .ok (.getfield 57, 3) := by decide +kernel
theorem dX6_status_46 : decode cX6_status 46 = .ok (.iload_n 1, 1) := by decide +kernel
theorem dX6_status_47 : decode cX6_status 47 = .ok (.iaload, 1) := by decide +kernel
theorem dX6_status_48 : decode cX6_status 48 = .ok (.goto 9, 3) := by decide +kernel
theorem dX6_status_51 : decode cX6_status 51 = .ok (.aload_n 0, 1) := by decide +kernel
theorem dX6_status_52 : decode cX6_status 52 = .ok (.ldc 70, 2) := by decide +kernel
theorem dX6_status_54 : decode cX6_status 54 = .ok (.invokevirtual 71, 3) := by decide +kernel
theorem dX6_status_57 : decode cX6_status 57 = .ok (.ireturn, 1) := by decide +kernel
set_option maxRecDepth 20000 in
theorem ggX6_finding_X6_isFrom : GoodIn wsX6_finding wsX6_isFrom := goodIn_r _ [6] (by decide +kernel) (by decide +kernel)
set_option maxRecDepth 20000 in
theorem gX6_finding_X6_isFrom : GoodIn wsX6_finding (va_wsS RX6 156 yX6_isFrom wsX6_isFrom) := goodIn_app (goodIn_of _ (by decide +kernel)) ggX6_finding_X6_isFrom
theorem dX6_finding_0 : decode cX6_finding 0 = .ok (.ldc 70, 2) := by decide +kernel
theorem dX6_finding_2 : decode cX6_finding 2 = .ok (.iload_n 1, 1) := by decide +kernel
theorem dX6_finding_3 : decode cX6_finding 3 = .ok (.isub, 1) := by decide +kernel
theorem dX6_finding_4 : decode cX6_finding 4 = .ok (.istore_n 2, 1) := by decide +kernel
theorem dX6_finding_5 : decode cX6_finding 5 = .ok (.iconst 0, 1) := by decide +kernel
theorem dX6_finding_6 : decode cX6_finding 6 = .ok (.iload_n 2, 1) := by decide +kernel
theorem dX6_finding_7 : decode cX6_finding 7 = .ok (.bipush 6, 2) := by decide +kernel
theorem dX6_finding_9 : decode cX6_finding 9 = .ok (.invokestatic 156, 3) := by decide +kernel
theorem dX6_finding_12 : decode cX6_finding 12 = .ok (.ifCond .eq 13, 3) := by decide +kernel
theorem dX6_finding_15 : decode cX6_finding 15 = .ok (.aload_n 0, 1) := by decide +kernel
theorem dX6_finding_16 : decode cX6_finding 16 = .ok (.getfield 57, 3) := by decide +kernel
theorem dX6_finding_19 : decode cX6_finding 19 = .ok (.iload_n 2, 1) := by decide +kernel
theorem dX6_finding_20 : decode cX6_finding 20 = .ok (.dup2, 1) := by decide +kernel
theorem dX6_finding_21 : decode cX6_finding 21 = .ok (.iaload, 1) := by decide +kernel
theorem dX6_finding_22 : decode cX6_finding 22 = .ok (.iconst 1, 1) := by decide +kernel
theorem dX6_finding_23 : decode cX6_finding 23 = .ok (.iadd, 1) := by decide +kernel
theorem dX6_finding_24 : decode cX6_finding 24 = .ok (.iastore, 1) := by decide +kernel
theorem dX6_finding_25 : decode cX6_finding 25 = .ok (.iload_n 1, 1) := by decide +kernel
theorem dX6_finding_26 : decode cX6_finding 26 = .ok (.ireturn, 1) := by decide +kernel
theorem dX6_isFrom_0 : decode cX6_isFrom 0 = .ok (.iload_n 1, 1) := by decide +kernel
theorem dX6_isFrom_1 : decode cX6_isFrom 1 = .ok (.iload_n 0, 1) := by decide +kernel
theorem dX6_isFrom_2 : decode cX6_isFrom 2 = .ok (.if_icmp .lt 12, 3) := by decide +kernel
theorem dX6_isFrom_5 : decode cX6_isFrom 5 = .ok (.iload_n 1, 1) := by decide +kernel
theorem dX6_isFrom_6 : decode cX6_isFrom 6 = .ok (.iload_n 2, 1) := by decide +kernel
theorem dX6_isFrom_7 : decode cX6_isFrom 7 = .ok (.if_icmp .gt 7, 3) := by decide +kernel
theorem dX6_isFrom_10 : decode cX6_isFrom 10 = .ok (.iconst 1, 1) := by decide +kernel
theorem dX6_isFrom_11 : decode cX6_isFrom 11 = .ok (.goto 4, 3) := by decide +kernel
theorem dX6_isFrom_14 : decode cX6_isFrom 14 = .ok (.iconst 0, 1) := by decide +kernel
theorem dX6_isFrom_15 : decode cX6_isFrom 15 = .ok (.ireturn, 1) := by decide +kernel
set_option maxRecDepth 20000 in
theorem ggX6_isBit_X6_isFrom : GoodIn wsX6_isBit wsX6_isFrom := goodIn_r _ [4] (by decide +kernel) (by decide +kernel)
set_option maxRecDepth 20000 in
theorem gX6_isBit_X6_isFrom : GoodIn wsX6_isBit (va_wsS RX6 156 yX6_isFrom wsX6_isFrom) := goodIn_app (goodIn_of _ (by decide +kernel)) ggX6_isBit_X6_isFrom
theorem dX6_isBit_0 : decode cX6_isBit 0 = .ok (.iconst 0, 1) := by decide +kernel
theorem dX6_isBit_1 : decode cX6_isBit 1 = .ok (.iload_n 0, 1) := by decide +kernel
theorem dX6_isBit_2 : decode cX6_isBit 2 = .ok (.iconst 1, 1) := by decide +kernel
theorem dX6_isBit_3 : decode cX6_isBit 3 = .ok (.invokestatic 156, 3) := by decide +kernel
theorem dX6_isBit_6 : decode cX6_isBit 6 = .ok (.ireturn, 1) := by decide +kernel
set_option maxRecDepth 20000 in
theorem ggX6_isKind_X6_isFrom : GoodIn wsX6_isKind wsX6_isFrom := goodIn_r _ [4] (by decide +kernel) (by decide +kernel)
set_option maxRecDepth 20000 in
theorem gX6_isKind_X6_isFrom : GoodIn wsX6_isKind (va_wsS RX6 156 yX6_isFrom wsX6_isFrom) := goodIn_app (goodIn_of _ (by decide +kernel)) ggX6_isKind_X6_isFrom
theorem dX6_isKind_0 : decode cX6_isKind 0 = .ok (.iconst 0, 1) := by decide +kernel
theorem dX6_isKind_1 : decode cX6_isKind 1 = .ok (.iload_n 0, 1) := by decide +kernel
theorem dX6_isKind_2 : decode cX6_isKind 2 = .ok (.bipush 6, 2) := by decide +kernel
theorem dX6_isKind_4 : decode cX6_isKind 4 = .ok (.invokestatic 156, 3) := by decide +kernel
theorem dX6_isKind_7 : decode cX6_isKind 7 = .ok (.ireturn, 1) := by decide +kernel
set_option maxRecDepth 20000 in
theorem ggX6_isSide_X6_isFrom : GoodIn wsX6_isSide wsX6_isFrom := goodIn_r _ [4] (by decide +kernel) (by decide +kernel)
set_option maxRecDepth 20000 in
theorem gX6_isSide_X6_isFrom : GoodIn wsX6_isSide (va_wsS RX6 156 yX6_isFrom wsX6_isFrom) := goodIn_app (goodIn_of _ (by decide +kernel)) ggX6_isSide_X6_isFrom
theorem dX6_isSide_0 : decode cX6_isSide 0 = .ok (.iconst 0, 1) := by decide +kernel
theorem dX6_isSide_1 : decode cX6_isSide 1 = .ok (.iload_n 0, 1) := by decide +kernel
theorem dX6_isSide_2 : decode cX6_isSide 2 = .ok (.bipush 11, 2) := by decide +kernel
theorem dX6_isSide_4 : decode cX6_isSide 4 = .ok (.invokestatic 156, 3) := by decide +kernel
theorem dX6_isSide_7 : decode cX6_isSide 7 = .ok (.ireturn, 1) := by decide +kernel
set_option maxRecDepth 20000 in
theorem ggX6_isYard_X6_isSide : GoodIn wsX6_isYard wsX6_isSide := goodIn_r _ [4, 5, 6, 3, 7] (by decide +kernel) (by decide +kernel)
set_option maxRecDepth 20000 in
theorem gX6_isYard_X6_isSide : GoodIn wsX6_isYard (va_wsS RX6 135 yX6_isSide wsX6_isSide) := goodIn_app (goodIn_of _ (by decide +kernel)) ggX6_isYard_X6_isSide
theorem dX6_isYard_0 : decode cX6_isYard 0 = .ok (.iload_n 0, 1) := by decide +kernel
theorem dX6_isYard_1 : decode cX6_isYard 1 = .ok (.invokestatic 135, 3) := by decide +kernel
theorem dX6_isYard_4 : decode cX6_isYard 4 = .ok (.ifCond .eq 14, 3) := by decide +kernel
theorem dX6_isYard_7 : decode cX6_isYard 7 = .ok (.iload_n 1, 1) := by decide +kernel
theorem dX6_isYard_8 : decode cX6_isYard 8 = .ok (.invokestatic 135, 3) := by decide +kernel
theorem dX6_isYard_11 : decode cX6_isYard 11 = .ok (.ifCond .eq 7, 3) := by decide +kernel
theorem dX6_isYard_14 : decode cX6_isYard 14 = .ok (.iconst 1, 1) := by decide +kernel
theorem dX6_isYard_15 : decode cX6_isYard 15 = .ok (.goto 4, 3) := by decide +kernel
theorem dX6_isYard_18 : decode cX6_isYard 18 = .ok (.iconst 0, 1) := by decide +kernel
theorem dX6_isYard_19 : decode cX6_isYard 19 = .ok (.ireturn, 1) := by decide +kernel
set_option maxRecDepth 20000 in
theorem ggX6_isSpot_X6_isFrom : GoodIn wsX6_isSpot wsX6_isFrom := goodIn_r _ [4] (by decide +kernel) (by decide +kernel)
set_option maxRecDepth 20000 in
theorem gX6_isSpot_X6_isFrom : GoodIn wsX6_isSpot (va_wsS RX6 156 yX6_isFrom wsX6_isFrom) := goodIn_app (goodIn_of _ (by decide +kernel)) ggX6_isSpot_X6_isFrom
theorem dX6_isSpot_0 : decode cX6_isSpot 0 = .ok (.iconst 0, 1) := by decide +kernel
theorem dX6_isSpot_1 : decode cX6_isSpot 1 = .ok (.iload_n 0, 1) := by decide +kernel
theorem dX6_isSpot_2 : decode cX6_isSpot 2 = .ok (.bipush 9, 2) := by decide +kernel
theorem dX6_isSpot_4 : decode cX6_isSpot 4 = .ok (.invokestatic 156, 3) := by decide +kernel
theorem dX6_isSpot_7 : decode cX6_isSpot 7 = .ok (.ireturn, 1) := by decide +kernel
set_option maxRecDepth 20000 in
theorem ggX6_isSheet_X6_isFrom : GoodIn wsX6_isSheet wsX6_isFrom := goodIn_r _ [4] (by decide +kernel) (by decide +kernel)
set_option maxRecDepth 20000 in
theorem gX6_isSheet_X6_isFrom : GoodIn wsX6_isSheet (va_wsS RX6 156 yX6_isFrom wsX6_isFrom) := goodIn_app (goodIn_of _ (by decide +kernel)) ggX6_isSheet_X6_isFrom
theorem dX6_isSheet_0 : decode cX6_isSheet 0 = .ok (.iconst 0, 1) := by decide +kernel
theorem dX6_isSheet_1 : decode cX6_isSheet 1 = .ok (.iload_n 0, 1) := by decide +kernel
theorem dX6_isSheet_2 : decode cX6_isSheet 2 = .ok (.iconst 3, 1) := by decide +kernel
theorem dX6_isSheet_3 : decode cX6_isSheet 3 = .ok (.invokestatic 156, 3) := by decide +kernel
theorem dX6_isSheet_6 : decode cX6_isSheet 6 = .ok (.ireturn, 1) := by decide +kernel
theorem dX6_yardOf_0 : decode cX6_yardOf 0 = .ok (.bipush 12, 2) := by decide +kernel
theorem dX6_yardOf_2 : decode cX6_yardOf 2 = .ok (.iload_n 1, 1) := by decide +kernel
theorem dX6_yardOf_3 : decode cX6_yardOf 3 = .ok (.imul, 1) := by decide +kernel
theorem dX6_yardOf_4 : decode cX6_yardOf 4 = .ok (.iload_n 0, 1) := by decide +kernel
theorem dX6_yardOf_5 : decode cX6_yardOf 5 = .ok (.iadd, 1) := by decide +kernel
theorem dX6_yardOf_6 : decode cX6_yardOf 6 = .ok (.ireturn, 1) := by decide +kernel
set_option maxRecDepth 20000 in
theorem ggX6_isUnder_X6_isKind : GoodIn wsX6_isUnder wsX6_isKind := goodIn_r _ [5, 6, 7, 4, 8] (by decide +kernel) (by decide +kernel)
set_option maxRecDepth 20000 in
theorem gX6_isUnder_X6_isKind : GoodIn wsX6_isUnder (va_wsS RX6 62 yX6_isKind wsX6_isKind) := goodIn_app (goodIn_of _ (by decide +kernel)) ggX6_isUnder_X6_isKind
theorem dX6_isUnder_0 : decode cX6_isUnder 0 = .ok (.iload_n 0, 1) := by decide +kernel
theorem dX6_isUnder_1 : decode cX6_isUnder 1 = .ok (.istore_n 2, 1) := by decide +kernel
theorem dX6_isUnder_2 : decode cX6_isUnder 2 = .ok (.iconst 0, 1) := by decide +kernel
theorem dX6_isUnder_3 : decode cX6_isUnder 3 = .ok (.istore_n 3, 1) := by decide +kernel
theorem dX6_isUnder_4 : decode cX6_isUnder 4 = .ok (.iload_n 3, 1) := by decide +kernel
theorem dX6_isUnder_5 : decode cX6_isUnder 5 = .ok (.bipush 7, 2) := by decide +kernel
theorem dX6_isUnder_7 : decode cX6_isUnder 7 = .ok (.if_icmp .ge 29, 3) := by decide +kernel
theorem dX6_isUnder_10 : decode cX6_isUnder 10 = .ok (.iload_n 2, 1) := by decide +kernel
theorem dX6_isUnder_11 : decode cX6_isUnder 11 = .ok (.invokestatic 62, 3) := by decide +kernel
theorem dX6_isUnder_14 : decode cX6_isUnder 14 = .ok (.ifCond .eq 22, 3) := by decide +kernel
theorem dX6_isUnder_17 : decode cX6_isUnder 17 = .ok (.iload_n 2, 1) := by decide +kernel
theorem dX6_isUnder_18 : decode cX6_isUnder 18 = .ok (.iload_n 1, 1) := by decide +kernel
theorem dX6_isUnder_19 : decode cX6_isUnder 19 = .ok (.if_icmp .ne 5, 3) := by decide +kernel
theorem dX6_isUnder_22 : decode cX6_isUnder 22 = .ok (.iconst 1, 1) := by decide +kernel
theorem dX6_isUnder_23 : decode cX6_isUnder 23 = .ok (.ireturn, 1) := by decide +kernel
theorem dX6_isUnder_24 : decode cX6_isUnder 24 = .ok (.getstatic 313, 3) := by decide +kernel
theorem dX6_isUnder_27 : decode cX6_isUnder 27 = .ok (.iload_n 2, 1) := by decide +kernel
theorem dX6_isUnder_28 : decode cX6_isUnder 28 = .ok (.iaload, 1) := by decide +kernel
theorem dX6_isUnder_29 : decode cX6_isUnder 29 = .ok (.istore_n 2, 1) := by decide +kernel
theorem dX6_isUnder_30 : decode cX6_isUnder 30 = .ok (.iinc 3 1, 3) := by decide +kernel
theorem dX6_isUnder_33 : decode cX6_isUnder 33 = .ok (.goto (-29), 3) := by decide +kernel
theorem dX6_isUnder_36 : decode cX6_isUnder 36 = .ok (.iconst 0, 1) := by decide +kernel
theorem dX6_isUnder_37 : decode cX6_isUnder 37 = .ok (.ireturn, 1) := by decide +kernel
