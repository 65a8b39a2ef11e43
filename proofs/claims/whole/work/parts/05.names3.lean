theorem dX7_init_0 : decode cX7_init 0 = .ok (.aload_n 0, 1) := by decide +kernel
theorem dX7_init_1 : decode cX7_init 1 = .ok (.invokespecial 1, 3) := by decide +kernel
theorem dX7_init_4 : decode cX7_init 4 = .ok (.aload_n 0, 1) := by decide +kernel
theorem dX7_init_5 : decode cX7_init 5 = .ok (.bipush 40, 2) := by decide +kernel
theorem dX7_init_7 : decode cX7_init 7 = .ok (.newarray .int, 2) := by decide +kernel
theorem dX7_init_9 : decode cX7_init 9 = .ok (.putfield 7, 3) := by decide +kernel
theorem dX7_init_12 : decode cX7_init 12 = .ok (.aload_n 0, 1) := by decide +kernel
theorem dX7_init_13 : decode cX7_init 13 = .ok (.bipush 40, 2) := by decide +kernel
theorem dX7_init_15 : decode cX7_init 15 = .ok (.newarray .int, 2) := by decide +kernel
theorem dX7_init_17 : decode cX7_init 17 = .ok (.putfield 13, 3) := by decide +kernel
theorem dX7_init_20 : decode cX7_init 20 = .ok (.aload_n 0, 1) := by decide +kernel
theorem dX7_init_21 : decode cX7_init 21 = .ok (.bipush 40, 2) := by decide +kernel
theorem dX7_init_23 : decode cX7_init 23 = .ok (.newarray .int, 2) := by decide +kernel
theorem dX7_init_25 : decode cX7_init 25 = .ok (.putfield 16, 3) := by decide +kernel
theorem dX7_init_28 : decode cX7_init 28 = .ok (.aload_n 0, 1) := by decide +kernel
theorem dX7_init_29 : decode cX7_init 29 = .ok (.bipush 7, 2) := by decide +kernel
theorem dX7_init_31 : decode cX7_init 31 = .ok (.newarray .int, 2) := by decide +kernel
theorem dX7_init_33 : decode cX7_init 33 = .ok (.putfield 19, 3) := by decide +kernel
theorem dX7_init_36 : decode cX7_init 36 = .ok (.aload_n 0, 1) := by decide +kernel
theorem dX7_init_37 : decode cX7_init 37 = .ok (.bipush 120, 2) := by decide +kernel
theorem dX7_init_39 : decode cX7_init 39 = .ok (.newarray .byte, 2) := by decide +kernel
theorem dX7_init_41 : decode cX7_init 41 = .ok (.putfield 22, 3) := by decide +kernel
theorem dX7_init_44 : decode cX7_init 44 = .ok (.aload_n 0, 1) := by decide +kernel
theorem dX7_init_45 : decode cX7_init 45 = .ok (.iconst (-1), 1) := by decide +kernel
theorem dX7_init_46 : decode cX7_init 46 = .ok (.putfield 26, 3) := by decide +kernel
theorem dX7_init_49 : decode cX7_init 49 = .ok (.aload_n 0, 1) := by decide +kernel
theorem dX7_init_50 : decode cX7_init 50 = .ok (.bipush 10, 2) := by decide +kernel
theorem dX7_init_52 : decode cX7_init 52 = .ok (.newarray .int, 2) := by decide +kernel
theorem dX7_init_54 : decode cX7_init 54 = .ok (.putfield 30, 3) := by decide +kernel
theorem dX7_init_57 : decode cX7_init 57 = .ok (.aload_n 0, 1) := by decide +kernel
theorem dX7_init_58 : decode cX7_init 58 = .ok (.bipush 10, 2) := by decide +kernel
theorem dX7_init_60 : decode cX7_init 60 = .ok (.newarray .int, 2) := by decide +kernel
theorem dX7_init_62 : decode cX7_init 62 = .ok (.putfield 33, 3) := by decide +kernel
theorem dX7_init_65 : decode cX7_init 65 = .ok (.aload_n 0, 1) := by decide +kernel
theorem dX7_init_66 : decode cX7_init 66 = .ok (.sipush 1024, 3) := by decide +kernel
theorem dX7_init_69 : decode cX7_init 69 = .ok (.newarray .int, 2) := by decide +kernel
theorem dX7_init_71 : decode cX7_init 71 = .ok (.putfield 36, 3) := by decide +kernel
theorem dX7_init_74 : decode cX7_init 74 = .ok (.aload_n 0, 1) := by decide +kernel
theorem dX7_init_75 : decode cX7_init 75 = .ok (.sipush 1026, 3) := by decide +kernel
theorem dX7_init_78 : decode cX7_init 78 = .ok (.newarray .int, 2) := by decide +kernel
theorem dX7_init_80 : decode cX7_init 80 = .ok (.putfield 39, 3) := by decide +kernel
theorem dX7_init_83 : decode cX7_init 83 = .ok (.aload_n 0, 1) := by decide +kernel
theorem dX7_init_84 : decode cX7_init 84 = .ok (.bipush 10, 2) := by decide +kernel
theorem dX7_init_86 : decode cX7_init 86 = .ok (.newarray .int, 2) := by decide +kernel
theorem dX7_init_88 : decode cX7_init 88 = .ok (.putfield 42, 3) := by decide +kernel
theorem dX7_init_91 : decode cX7_init 91 = .ok (.aload_n 0, 1) := by decide +kernel
theorem dX7_init_92 : decode cX7_init 92 = .ok (.iconst 4, 1) := by decide +kernel
theorem dX7_init_93 : decode cX7_init 93 = .ok (.newarray .int, 2) := by decide +kernel
theorem dX7_init_95 : decode cX7_init 95 = .ok (.putfield 45, 3) := by decide +kernel
theorem dX7_init_98 : decode cX7_init 98 = .ok (.aload_n 0, 1) := by decide +kernel
theorem dX7_init_99 : decode cX7_init 99 = .ok (.iconst 4, 1) := by decide +kernel
theorem dX7_init_100 : decode cX7_init 100 = .ok (.newarray .int, 2) := by decide +kernel
theorem dX7_init_102 : decode cX7_init 102 = .ok (.putfield 48, 3) := by decide +kernel
theorem dX7_init_105 : decode cX7_init 105 = .ok (.aload_n 0, 1) := by decide +kernel
theorem dX7_init_106 : decode cX7_init 106 = .ok (.sipush 160, 3) := by decide +kernel
theorem dX7_init_109 : decode cX7_init 109 = .ok (.newarray .int, 2) := by decide +kernel
theorem dX7_init_111 : decode cX7_init 111 = .ok (.putfield 51, 3) := by decide +kernel
theorem dX7_init_114 : decode cX7_init 114 = .ok (.aload_n 0, 1) := by decide +kernel
theorem dX7_init_115 : decode cX7_init 115 = .ok (.bipush 40, 2) := by decide +kernel
theorem dX7_init_117 : decode cX7_init 117 = .ok (.newarray .int, 2) := by decide +kernel
theorem dX7_init_119 : decode cX7_init 119 = .ok (.putfield 54, 3) := by decide +kernel
theorem dX7_init_122 : decode cX7_init 122 = .ok (.aload_n 0, 1) := by decide +kernel
theorem dX7_init_123 : decode cX7_init 123 = .ok (.getfield 7, 3) := by decide +kernel
theorem dX7_init_126 : decode cX7_init 126 = .ok (.iconst 2, 1) := by decide +kernel
theorem dX7_init_127 : decode cX7_init 127 = .ok (.iconst 1, 1) := by decide +kernel
theorem dX7_init_128 : decode cX7_init 128 = .ok (.iastore, 1) := by decide +kernel
theorem dX7_init_129 : decode cX7_init 129 = .ok (.aload_n 0, 1) := by decide +kernel
theorem dX7_init_130 : decode cX7_init 130 = .ok (.getfield 7, 3) := by decide +kernel
theorem dX7_init_133 : decode cX7_init 133 = .ok (.iconst 5, 1) := by decide +kernel
theorem dX7_init_134 : decode cX7_init 134 = .ok (.iconst 1, 1) := by decide +kernel
theorem dX7_init_135 : decode cX7_init 135 = .ok (.iastore, 1) := by decide +kernel
theorem dX7_init_136 : decode cX7_init 136 = .ok (.return_, 1) := by decide +kernel
theorem dX7_finds_0 : decode cX7_finds 0 = .ok (.aload_n 0, 1) := by decide +kernel
theorem dX7_finds_1 : decode cX7_finds 1 = .ok (.getfield 19, 3) := by decide +kernel
theorem dX7_finds_4 : decode cX7_finds 4 = .ok (.iload_n 1, 1) := by decide +kernel
theorem dX7_finds_5 : decode cX7_finds 5 = .ok (.dup2, 1) := by decide +kernel
theorem dX7_finds_6 : decode cX7_finds 6 = .ok (.iaload, 1) := by decide +kernel
theorem dX7_finds_7 : decode cX7_finds 7 = .ok (.iconst 1, 1) := by decide +kernel
theorem dX7_finds_8 : decode cX7_finds 8 = .ok (.iadd, 1) := by decide +kernel
theorem dX7_finds_9 : decode cX7_finds 9 = .ok (.iastore, 1) := by decide +kernel
theorem dX7_finds_10 : decode cX7_finds 10 = .ok (.ldc 57, 2) := by decide +kernel
theorem dX7_finds_12 : decode cX7_finds 12 = .ok (.iload_n 1, 1) := by decide +kernel
theorem dX7_finds_13 : decode cX7_finds 13 = .ok (.isub, 1) := by decide +kernel
theorem dX7_finds_14 : decode cX7_finds 14 = .ok (.ireturn, 1) := by decide +kernel
theorem dX7_in_0 : decode cX7_in 0 = .ok (.lload_n 0, 1) := by decide +kernel
theorem dX7_in_1 : decode cX7_in 1 = .ok (.lload_n 2, 1) := by decide +kernel
theorem dX7_in_2 : decode cX7_in 2 = .ok (.lcmp, 1) := by decide +kernel
theorem dX7_in_3 : decode cX7_in 3 = .ok (.ifCond .lt 14, 3) := by decide +kernel
theorem dX7_in_6 : decode cX7_in 6 = .ok (.lload_n 0, 1) := by decide +kernel
theorem dX7_in_7 : decode cX7_in 7 = .ok (.lload 4, 2) := by decide +kernel
theorem dX7_in_9 : decode cX7_in 9 = .ok (.lcmp, 1) := by decide +kernel
theorem dX7_in_10 : decode cX7_in 10 = .ok (.ifCond .gt 7, 3) := by decide +kernel
theorem dX7_in_13 : decode cX7_in 13 = .ok (.iconst 1, 1) := by decide +kernel
theorem dX7_in_14 : decode cX7_in 14 = .ok (.goto 4, 3) := by decide +kernel
theorem dX7_in_17 : decode cX7_in 17 = .ok (.iconst 0, 1) := by decide +kernel
theorem dX7_in_18 : decode cX7_in 18 = .ok (.ireturn, 1) := by decide +kernel
theorem dX7_copies_0 : decode cX7_copies 0 = .ok (.iconst 0, 1) := by decide +kernel
theorem dX7_copies_1 : decode cX7_copies 1 = .ok (.istore_n 2, 1) := by decide +kernel
theorem dX7_copies_2 : decode cX7_copies 2 = .ok (.iload_n 2, 1) := by decide +kernel
theorem dX7_copies_3 : decode cX7_copies 3 = .ok (.bipush 40, 2) := by decide +kernel
theorem dX7_copies_5 : decode cX7_copies 5 = .ok (.if_icmp .ge 15, 3) := by decide +kernel
theorem dX7_copies_8 : decode cX7_copies 8 = .ok (.aload_n 1, 1) := by decide +kernel
theorem dX7_copies_9 : decode cX7_copies 9 = .ok (.iload_n 2, 1) := by decide +kernel
theorem dX7_copies_10 : decode cX7_copies 10 = .ok (.aload_n 0, 1) := by decide +kernel
theorem dX7_copies_11 : decode cX7_copies 11 = .ok (.iload_n 2, 1) := by decide +kernel
theorem dX7_copies_12 : decode cX7_copies 12 = .ok (.iaload, 1) := by decide +kernel
theorem dX7_copies_13 : decode cX7_copies 13 = .ok (.iastore, 1) := by decide +kernel
theorem dX7_copies_14 : decode cX7_copies 14 = .ok (.iinc 2 1, 3) := by decide +kernel
theorem dX7_copies_17 : decode cX7_copies 17 = .ok (.goto (-15), 3) := by decide +kernel
theorem dX7_copies_20 : decode cX7_copies 20 = .ok (.return_, 1) := by decide +kernel
set_option maxRecDepth 20000 in
theorem ggX7_isTent_X7_in : GoodIn wsX7_isTent wsX7_in := goodIn_r _ [5] (by decide +kernel) (by decide +kernel)
set_option maxRecDepth 20000 in
theorem gX7_isTent_X7_in : GoodIn wsX7_isTent (va_wsS RX7 58 yX7_in wsX7_in) := goodIn_app (goodIn_of _ (by decide +kernel)) ggX7_isTent_X7_in
theorem dX7_isTent_0 : decode cX7_isTent 0 = .ok (.iload_n 1, 1) := by decide +kernel
theorem dX7_isTent_1 : decode cX7_isTent 1 = .ok (.i2l, 1) := by decide +kernel
theorem dX7_isTent_2 : decode cX7_isTent 2 = .ok (.lconst 0, 1) := by decide +kernel
theorem dX7_isTent_3 : decode cX7_isTent 3 = .ok (.aload_n 0, 1) := by decide +kernel
theorem dX7_isTent_4 : decode cX7_isTent 4 = .ok (.getfield 7, 3) := by decide +kernel
theorem dX7_isTent_7 : decode cX7_isTent 7 = .ok (.iconst 0, 1) := by decide +kernel
theorem dX7_isTent_8 : decode cX7_isTent 8 = .ok (.iaload, 1) := by decide +kernel
theorem dX7_isTent_9 : decode cX7_isTent 9 = .ok (.iconst 1, 1) := by decide +kernel
theorem dX7_isTent_10 : decode cX7_isTent 10 = .ok (.isub, 1) := by decide +kernel
theorem dX7_isTent_11 : decode cX7_isTent 11 = .ok (.i2l, 1) := by decide +kernel
theorem dX7_isTent_12 : decode cX7_isTent 12 = .ok (.invokestatic 58, 3) := by decide +kernel
theorem dX7_isTent_15 : decode cX7_isTent 15 = .ok (.ireturn, 1) := by decide +kernel
set_option maxRecDepth 20000 in
theorem ggX7_isYard_X7_in : GoodIn wsX7_isYard wsX7_in := goodIn_r _ [5] (by decide +kernel) (by decide +kernel)
set_option maxRecDepth 20000 in
theorem gX7_isYard_X7_in : GoodIn wsX7_isYard (va_wsS RX7 58 yX7_in wsX7_in) := goodIn_app (goodIn_of _ (by decide +kernel)) ggX7_isYard_X7_in
theorem dX7_isYard_0 : decode cX7_isYard 0 = .ok (.iload_n 0, 1) := by decide +kernel
theorem dX7_isYard_1 : decode cX7_isYard 1 = .ok (.i2l, 1) := by decide +kernel
theorem dX7_isYard_2 : decode cX7_isYard 2 = .ok (.lconst 0, 1) := by decide +kernel
theorem dX7_isYard_3 : decode cX7_isYard 3 = .ok (.ldc2_w 62, 3) := by decide +kernel
theorem dX7_isYard_6 : decode cX7_isYard 6 = .ok (.invokestatic 58, 3) := by decide +kernel
theorem dX7_isYard_9 : decode cX7_isYard 9 = .ok (.ifCond .eq 19, 3) := by decide +kernel
theorem dX7_isYard_12 : decode cX7_isYard 12 = .ok (.iload_n 1, 1) := by decide +kernel
theorem dX7_isYard_13 : decode cX7_isYard 13 = .ok (.i2l, 1) := by decide +kernel
theorem dX7_isYard_14 : decode cX7_isYard 14 = .ok (.lconst 0, 1) := by decide +kernel
theorem dX7_isYard_15 : decode cX7_isYard 15 = .ok (.ldc2_w 62, 3) := by decide +kernel
theorem dX7_isYard_18 : decode cX7_isYard 18 = .ok (.invokestatic 58, 3) := by decide +kernel
theorem dX7_isYard_21 : decode cX7_isYard 21 = .ok (.ifCond .eq 7, 3) := by decide +kernel
theorem dX7_isYard_24 : decode cX7_isYard 24 = .ok (.iconst 1, 1) := by decide +kernel
theorem dX7_isYard_25 : decode cX7_isYard 25 = .ok (.goto 4, 3) := by decide +kernel
theorem dX7_isYard_28 : decode cX7_isYard 28 = .ok (.iconst 0, 1) := by decide +kernel
theorem dX7_isYard_29 : decode cX7_isYard 29 = .ok (.ireturn, 1) := by decide +kernel
theorem dX7_kind_0 : decode cX7_kind 0 = .ok (.aload_n 0, 1) := by decide +kernel
theorem dX7_kind_1 : decode cX7_kind 1 = .ok (.getfield 7, 3) := by decide +kernel
theorem dX7_kind_4 : decode cX7_kind 4 = .ok (.bipush 10, 2) := by decide +kernel
theorem dX7_kind_6 : decode cX7_kind 6 = .ok (.iload_n 1, 1) := by decide +kernel
theorem dX7_kind_7 : decode cX7_kind 7 = .ok (.iadd, 1) := by decide +kernel
theorem dX7_kind_8 : decode cX7_kind 8 = .ok (.iaload, 1) := by decide +kernel
theorem dX7_kind_9 : decode cX7_kind 9 = .ok (.ireturn, 1) := by decide +kernel
theorem dX7_yard_0 : decode cX7_yard 0 = .ok (.aload_n 0, 1) := by decide +kernel
theorem dX7_yard_1 : decode cX7_yard 1 = .ok (.getfield 7, 3) := by decide +kernel
theorem dX7_yard_4 : decode cX7_yard 4 = .ok (.bipush 20, 2) := by decide +kernel
theorem dX7_yard_6 : decode cX7_yard 6 = .ok (.iload_n 1, 1) := by decide +kernel
theorem dX7_yard_7 : decode cX7_yard 7 = .ok (.iadd, 1) := by decide +kernel
theorem dX7_yard_8 : decode cX7_yard 8 = .ok (.iaload, 1) := by decide +kernel
theorem dX7_yard_9 : decode cX7_yard 9 = .ok (.ireturn, 1) := by decide +kernel
theorem dX7_saysNow_0 : decode cX7_saysNow 0 = .ok (.aload_n 0, 1) := by decide +kernel
theorem dX7_saysNow_1 : decode cX7_saysNow 1 = .ok (.getfield 7, 3) := by decide +kernel
theorem dX7_saysNow_4 : decode cX7_saysNow 4 = .ok (.bipush 6, 2) := by decide +kernel
theorem dX7_saysNow_6 : decode cX7_saysNow 6 = .ok (.iaload, 1) := by decide +kernel
theorem dX7_saysNow_7 : decode cX7_saysNow 7 = .ok (.iload_n 1, 1) := by decide +kernel
theorem dX7_saysNow_8 : decode cX7_saysNow 8 = .ok (.ishr, 1) := by decide +kernel
theorem dX7_saysNow_9 : decode cX7_saysNow 9 = .ok (.iconst 1, 1) := by decide +kernel
theorem dX7_saysNow_10 : decode cX7_saysNow 10 = .ok (.iand, 1) := by decide +kernel
theorem dX7_saysNow_11 : decode cX7_saysNow 11 = .ok (.ireturn, 1) := by decide +kernel
theorem dX7_ones_0 : decode cX7_ones 0 = .ok (.iconst 0, 1) := by decide +kernel
theorem dX7_ones_1 : decode cX7_ones 1 = .ok (.istore_n 1, 1) := by decide +kernel
theorem dX7_ones_2 : decode cX7_ones 2 = .ok (.iconst 0, 1) := by decide +kernel
theorem dX7_ones_3 : decode cX7_ones 3 = .ok (.istore_n 2, 1) := by decide +kernel
theorem dX7_ones_4 : decode cX7_ones 4 = .ok (.iload_n 2, 1) := by decide +kernel
theorem dX7_ones_5 : decode cX7_ones 5 = .ok (.bipush 10, 2) := by decide +kernel
theorem dX7_ones_7 : decode cX7_ones 7 = .ok (.if_icmp .ge 17, 3) := by decide +kernel
theorem dX7_ones_10 : decode cX7_ones 10 = .ok (.iload_n 1, 1) := by decide +kernel
theorem dX7_ones_11 : decode cX7_ones 11 = .ok (.iload_n 0, 1) := by decide +kernel
theorem dX7_ones_12 : decode cX7_ones 12 = .ok (.iload_n 2, 1) := by decide +kernel
theorem dX7_ones_13 : decode cX7_ones 13 = .ok (.ishr, 1) := by decide +kernel
theorem dX7_ones_14 : decode cX7_ones 14 = .ok (.iconst 1, 1) := by decide +kernel
theorem dX7_ones_15 : decode cX7_ones 15 = .ok (.iand, 1) := by decide +kernel
theorem dX7_ones_16 : decode cX7_ones 16 = .ok (.iadd, 1) := by decide +kernel
theorem dX7_ones_17 : decode cX7_ones 17 = .ok (.istore_n 1, 1) := by decide +kernel
theorem dX7_ones_18 : decode cX7_ones 18 = .ok (.iinc 2 1, 3) := by decide +kernel
theorem dX7_ones_21 : decode cX7_ones 21 = .ok (.goto (-17), 3) := by decide +kernel
theorem dX7_ones_24 : decode cX7_ones 24 = .ok (.iload_n 1, 1) := by decide +kernel
theorem dX7_ones_25 : decode cX7_ones 25 = .ok (.ireturn, 1) := by decide +kernel
set_option maxRecDepth 20000 in
theorem ggX7_whoIs_X7_yard : GoodIn wsX7_whoIs wsX7_yard := goodIn_r _ [6, 1, 7, 8, 9, 10, 11, 12, 13, 14, 15, 16, 17, 18, 19, 20, 21, 22, 23, 24, 25, 26, 27, 28, 29, 30, 31, 32, 33, 34] (by decide +kernel) (by decide +kernel)
set_option maxRecDepth 20000 in
theorem gX7_whoIs_X7_yard : GoodIn wsX7_whoIs (wsV RX7 64 RX7 yX7_yard wsX7_yard) := goodIn_app (goodIn_of _ (by decide +kernel)) ggX7_whoIs_X7_yard
theorem dX7_whoIs_0 : decode cX7_whoIs 0 = .ok (.iconst 0, 1) := by decide +kernel
theorem dX7_whoIs_1 : decode cX7_whoIs 1 = .ok (.istore_n 2, 1) := by decide +kernel
theorem dX7_whoIs_2 : decode cX7_whoIs 2 = .ok (.iload_n 2, 1) := by decide +kernel
theorem dX7_whoIs_3 : decode cX7_whoIs 3 = .ok (.aload_n 0, 1) := by decide +kernel
theorem dX7_whoIs_4 : decode cX7_whoIs 4 = .ok (.getfield 7, 3) := by decide +kernel
theorem dX7_whoIs_7 : decode cX7_whoIs 7 = .ok (.iconst 0, 1) := by decide +kernel
theorem dX7_whoIs_8 : decode cX7_whoIs 8 = .ok (.iaload, 1) := by decide +kernel
theorem dX7_whoIs_9 : decode cX7_whoIs 9 = .ok (.if_icmp .ge 20, 3) := by decide +kernel
theorem dX7_whoIs_12 : decode cX7_whoIs 12 = .ok (.aload_n 0, 1) := by decide +kernel
theorem dX7_whoIs_13 : decode cX7_whoIs 13 = .ok (.iload_n 2, 1) := by decide +kernel
theorem dX7_whoIs_14 : decode cX7_whoIs 14 = .ok (.invokevirtual 64, 3) := by decide +kernel
theorem dX7_whoIs_17 : decode cX7_whoIs 17 = .ok (.iload_n 1, 1) := by decide +kernel
theorem dX7_whoIs_18 : decode cX7_whoIs 18 = .ok (.if_icmp .ne 5, 3) := by decide +kernel
theorem dX7_whoIs_21 : decode cX7_whoIs 21 = .ok (.iload_n 2, 1) := by decide +kernel
theorem dX7_whoIs_22 : decode cX7_whoIs 22 = .ok (.ireturn, 1) := by decide +kernel
theorem dX7_whoIs_23 : decode cX7_whoIs 23 = .ok (.iinc 2 1, 3) := by decide +kernel
theorem dX7_whoIs_26 : decode cX7_whoIs 26 = .ok (.goto (-24), 3) := by decide +kernel
theorem dX7_whoIs_29 : decode cX7_whoIs 29 = .ok (.iconst (-1), 1) := by decide +kernel
theorem dX7_whoIs_30 : decode cX7_whoIs 30 = .ok (.ireturn, 1) := by decide +kernel
theorem dX7_size_0 : decode cX7_size 0 = .ok (.iload_n 0, 1) := by decide +kernel
theorem dX7_size_1 : decode cX7_size 1 = .ok (.ifCond .ge 8, 3) := by decide +kernel
theorem dX7_size_4 : decode cX7_size 4 = .ok (.iload_n 0, 1) := by decide +kernel
theorem dX7_size_5 : decode cX7_size 5 = .ok (.ineg, 1) := by decide +kernel
theorem dX7_size_6 : decode cX7_size 6 = .ok (.goto 4, 3) := by decide +kernel
theorem dX7_size_9 : decode cX7_size 9 = .ok (.iload_n 0, 1) := by decide +kernel
theorem dX7_size_10 : decode cX7_size 10 = .ok (.ireturn, 1) := by decide +kernel
set_option maxRecDepth 20000 in
theorem ggX7_farOf_X7_size : GoodIn wsX7_farOf wsX7_size := goodIn_r _ [5] (by decide +kernel) (by decide +kernel)
set_option maxRecDepth 20000 in
theorem gX7_farOf_X7_size : GoodIn wsX7_farOf (va_wsS RX7 68 yX7_size wsX7_size) := goodIn_app (goodIn_of _ (by decide +kernel)) ggX7_farOf_X7_size
theorem dX7_farOf_0 : decode cX7_farOf 0 = .ok (.iload_n 1, 1) := by decide +kernel
theorem dX7_farOf_1 : decode cX7_farOf 1 = .ok (.bipush 12, 2) := by decide +kernel
theorem dX7_farOf_3 : decode cX7_farOf 3 = .ok (.irem, 1) := by decide +kernel
theorem dX7_farOf_4 : decode cX7_farOf 4 = .ok (.iload_n 2, 1) := by decide +kernel
theorem dX7_farOf_5 : decode cX7_farOf 5 = .ok (.bipush 12, 2) := by decide +kernel
theorem dX7_farOf_7 : decode cX7_farOf 7 = .ok (.irem, 1) := by decide +kernel
theorem dX7_farOf_8 : decode cX7_farOf 8 = .ok (.isub, 1) := by decide +kernel
theorem dX7_farOf_9 : decode cX7_farOf 9 = .ok (.istore_n 3, 1) := by decide +kernel
theorem dX7_farOf_10 : decode cX7_farOf 10 = .ok (.iload_n 1, 1) := by decide +kernel
theorem dX7_farOf_11 : decode cX7_farOf 11 = .ok (.bipush 12, 2) := by decide +kernel
theorem dX7_farOf_13 : decode cX7_farOf 13 = .ok (.idiv, 1) := by decide +kernel
theorem dX7_farOf_14 : decode cX7_farOf 14 = .ok (.iload_n 2, 1) := by decide +kernel
theorem dX7_farOf_15 : decode cX7_farOf 15 = .ok (.bipush 12, 2) := by decide +kernel
theorem dX7_farOf_17 : decode cX7_farOf 17 = .ok (.idiv, 1) := by decide +kernel
theorem dX7_farOf_18 : decode cX7_farOf 18 = .ok (.isub, 1) := by decide +kernel
theorem dX7_farOf_19 : decode cX7_farOf 19 = .ok (.istore 4, 2) := by decide +kernel
theorem dX7_farOf_21 : decode cX7_farOf 21 = .ok (.iload_n 1, 1) := by decide +kernel
theorem dX7_farOf_22 : decode cX7_farOf 22 = .ok (.bipush 12, 2) := by decide +kernel
theorem dX7_farOf_24 : decode cX7_farOf 24 = .ok (.irem, 1) := by decide +kernel
theorem dX7_farOf_25 : decode cX7_farOf 25 = .ok (.aload_n 0, 1) := by decide +kernel
theorem dX7_farOf_26 : decode cX7_farOf 26 = .ok (.getfield 7, 3) := by decide +kernel
theorem dX7_farOf_29 : decode cX7_farOf 29 = .ok (.iconst 3, 1) := by decide +kernel
theorem dX7_farOf_30 : decode cX7_farOf 30 = .ok (.iaload, 1) := by decide +kernel
theorem dX7_farOf_31 : decode cX7_farOf 31 = .ok (.if_icmp .ge 7, 3) := by decide +kernel
theorem dX7_farOf_34 : decode cX7_farOf 34 = .ok (.iconst 1, 1) := by decide +kernel
theorem dX7_farOf_35 : decode cX7_farOf 35 = .ok (.goto 4, 3) := by decide +kernel
theorem dX7_farOf_38 : decode cX7_farOf 38 = .ok (.iconst 0, 1) := by decide +kernel
theorem dX7_farOf_39 : decode cX7_farOf 39 = .ok (.iload_n 2, 1) := by decide +kernel
theorem dX7_farOf_40 : decode cX7_farOf 40 = .ok (.bipush 12, 2) := by decide +kernel
theorem dX7_farOf_42 : decode cX7_farOf 42 = .ok (.irem, 1) := by decide +kernel
theorem dX7_farOf_43 : decode cX7_farOf 43 = .ok (.aload_n 0, 1) := by decide +kernel
theorem dX7_farOf_44 : decode cX7_farOf 44 = .ok (.getfield 7, 3) := by decide +kernel
theorem dX7_farOf_47 : decode cX7_farOf 47 = .ok (.iconst 3, 1) := by decide +kernel
theorem dX7_farOf_48 : decode cX7_farOf 48 = .ok (.iaload, 1) := by decide +kernel
theorem dX7_farOf_49 : decode cX7_farOf 49 = .ok (.if_icmp .ge 7, 3) := by decide +kernel
theorem dX7_farOf_52 : decode cX7_farOf 52 = .ok (.iconst 1, 1) := by decide +kernel
theorem dX7_farOf_53 : decode cX7_farOf 53 = .ok (.goto 4, 3) := by decide +kernel
theorem dX7_farOf_56 : decode cX7_farOf 56 = .ok (.iconst 0, 1) := by decide +kernel
theorem dX7_farOf_57 : decode cX7_farOf 57 = .ok (.if_icmp .eq 7, 3) := by decide +kernel
theorem dX7_farOf_60 : decode cX7_farOf 60 = .ok (.iconst 1, 1) := by decide +kernel
theorem dX7_farOf_61 : decode cX7_farOf 61 = .ok (.goto 4, 3) := by decide +kernel
theorem dX7_farOf_64 : decode cX7_farOf 64 = .ok (.iconst 0, 1) := by decide +kernel
theorem dX7_farOf_65 : decode cX7_farOf 65 = .ok (.istore 5, 2) := by decide +kernel
theorem dX7_farOf_67 : decode cX7_farOf 67 = .ok (.aload_n 0, 1) := by decide +kernel
theorem dX7_farOf_68 : decode cX7_farOf 68 = .ok (.getfield 7, 3) := by decide +kernel
theorem dX7_farOf_71 : decode cX7_farOf 71 = .ok (.iconst 5, 1) := by decide +kernel
theorem dX7_farOf_72 : decode cX7_farOf 72 = .ok (.iaload, 1) := by decide +kernel
theorem dX7_farOf_73 : decode cX7_farOf 73 = .ok (.iconst 1, 1) := by decide +kernel
theorem dX7_farOf_74 : decode cX7_farOf 74 = .ok (.if_icmp .ne 59, 3) := by decide +kernel
theorem dX7_farOf_77 : decode cX7_farOf 77 = .ok (.aload_n 0, 1) := by decide +kernel
theorem dX7_farOf_78 : decode cX7_farOf 78 = .ok (.getfield 7, 3) := by decide +kernel
theorem dX7_farOf_81 : decode cX7_farOf 81 = .ok (.iconst 3, 1) := by decide +kernel
theorem dX7_farOf_82 : decode cX7_farOf 82 = .ok (.iaload, 1) := by decide +kernel
theorem dX7_farOf_83 : decode cX7_farOf 83 = .ok (.ifCond .le 50, 3) := by decide +kernel
theorem dX7_farOf_86 : decode cX7_farOf 86 = .ok (.iload 5, 2) := by decide +kernel
theorem dX7_farOf_88 : decode cX7_farOf 88 = .ok (.ifCond .eq 45, 3) := by decide +kernel
theorem dX7_farOf_91 : decode cX7_farOf 91 = .ok (.iload_n 3, 1) := by decide +kernel
theorem dX7_farOf_92 : decode cX7_farOf 92 = .ok (.invokestatic 68, 3) := by decide +kernel
theorem dX7_farOf_95 : decode cX7_farOf 95 = .ok (.iload_n 1, 1) := by decide +kernel
theorem dX7_farOf_96 : decode cX7_farOf 96 = .ok (.bipush 12, 2) := by decide +kernel
theorem dX7_farOf_98 : decode cX7_farOf 98 = .ok (.idiv, 1) := by decide +kernel
theorem dX7_farOf_99 : decode cX7_farOf 99 = .ok (.aload_n 0, 1) := by decide +kernel
theorem dX7_farOf_100 : decode cX7_farOf 100 = .ok (.getfield 7, 3) := by decide +kernel
theorem dX7_farOf_103 : decode cX7_farOf 103 = .ok (.iconst 4, 1) := by decide +kernel
theorem dX7_farOf_104 : decode cX7_farOf 104 = .ok (.iaload, 1) := by decide +kernel
theorem dX7_farOf_105 : decode cX7_farOf 105 = .ok (.isub, 1) := by decide +kernel
theorem dX7_farOf_106 : decode cX7_farOf 106 = .ok (.invokestatic 68, 3) := by decide +kernel
theorem dX7_farOf_109 : decode cX7_farOf 109 = .ok (.iadd, 1) := by decide +kernel
theorem dX7_farOf_110 : decode cX7_farOf 110 = .ok (.iload_n 2, 1) := by decide +kernel
theorem dX7_farOf_111 : decode cX7_farOf 111 = .ok (.bipush 12, 2) := by decide +kernel
theorem dX7_farOf_113 : decode cX7_farOf 113 = .ok (.idiv, 1) := by decide +kernel
theorem dX7_farOf_114 : decode cX7_farOf 114 = .ok (.aload_n 0, 1) := by decide +kernel
theorem dX7_farOf_115 : decode cX7_farOf 115 = .ok (.getfield 7, 3) := by decide +kernel
theorem dX7_farOf_118 : decode cX7_farOf 118 = .ok (.iconst 4, 1) := by decide +kernel
theorem dX7_farOf_119 : decode cX7_farOf 119 = .ok (.iaload, 1) := by decide +kernel
theorem dX7_farOf_120 : decode cX7_farOf 120 = .ok (.isub, 1) := by decide +kernel
theorem dX7_farOf_121 : decode cX7_farOf 121 = .ok (.invokestatic 68, 3) := by decide +kernel
theorem dX7_farOf_124 : decode cX7_farOf 124 = .ok (.iadd, 1) := by decide +kernel
theorem dX7_farOf_125 : decode cX7_farOf 125 = .ok (.istore 6, 2) := by decide +kernel
theorem dX7_farOf_127 : decode cX7_farOf 127 = .ok (.iload 6, 2) := by decide +kernel
theorem dX7_farOf_129 : decode cX7_farOf 129 = .ok (.iload 6, 2) := by decide +kernel
theorem dX7_farOf_131 : decode cX7_farOf 131 = .ok (.imul, 1) := by decide +kernel
theorem dX7_farOf_132 : decode cX7_farOf 132 = .ok (.ireturn, 1) := by decide +kernel
theorem dX7_farOf_133 : decode cX7_farOf 133 = .ok (.iload_n 3, 1) := by decide +kernel
theorem dX7_farOf_134 : decode cX7_farOf 134 = .ok (.iload_n 3, 1) := by decide +kernel
theorem dX7_farOf_135 : decode cX7_farOf 135 = .ok (.imul, 1) := by decide +kernel
theorem dX7_farOf_136 : decode cX7_farOf 136 = .ok (.iload 4, 2) := by decide +kernel
theorem dX7_farOf_138 : decode cX7_farOf 138 = .ok (.iload 4, 2) := by decide +kernel
theorem dX7_farOf_140 : decode cX7_farOf 140 = .ok (.imul, 1) := by decide +kernel
theorem dX7_farOf_141 : decode cX7_farOf 141 = .ok (.iadd, 1) := by decide +kernel
theorem dX7_farOf_142 : decode cX7_farOf 142 = .ok (.ireturn, 1) := by decide +kernel
set_option maxRecDepth 20000 in
theorem ggX7_nearestOf_X7_yard : GoodIn wsX7_nearestOf wsX7_yard := goodIn_r _ [6, 7, 15, 16, 17, 18, 19, 20, 21, 22, 23, 24, 25, 26, 27, 28, 29, 30, 31, 32, 33, 34, 35, 36, 37, 38, 39, 40, 41, 42] (by decide +kernel) (by decide +kernel)
set_option maxRecDepth 20000 in
theorem gX7_nearestOf_X7_yard : GoodIn wsX7_nearestOf (wsV RX7 64 RX7 yX7_yard wsX7_yard) := goodIn_app (goodIn_of _ (by decide +kernel)) ggX7_nearestOf_X7_yard
set_option maxRecDepth 20000 in
theorem ggX7_nearestOf_X7_farOf : GoodIn wsX7_nearestOf wsX7_farOf := goodIn_r _ [11, 7, 12, 13, 5, 14, 15, 16, 17, 18, 19, 20, 21, 22, 23, 24, 25, 26, 27, 28, 29, 30, 31, 32, 33, 34, 35, 36, 37, 38, 39, 40, 41, 42] (by decide +kernel) (by decide +kernel)
set_option maxRecDepth 20000 in
theorem gX7_nearestOf_X7_farOf : GoodIn wsX7_nearestOf (wsV RX7 71 RX7 yX7_farOf wsX7_farOf) := goodIn_app (goodIn_of _ (by decide +kernel)) ggX7_nearestOf_X7_farOf
theorem dX7_nearestOf_0 : decode cX7_nearestOf 0 = .ok (.iconst (-1), 1) := by decide +kernel
theorem dX7_nearestOf_1 : decode cX7_nearestOf 1 = .ok (.istore_n 3, 1) := by decide +kernel
theorem dX7_nearestOf_2 : decode cX7_nearestOf 2 = .ok (.iconst 0, 1) := by decide +kernel
theorem dX7_nearestOf_3 : decode cX7_nearestOf 3 = .ok (.istore 4, 2) := by decide +kernel
theorem dX7_nearestOf_5 : decode cX7_nearestOf 5 = .ok (.iload 4, 2) := by decide +kernel
theorem dX7_nearestOf_7 : decode cX7_nearestOf 7 = .ok (.iload_n 2, 1) := by decide +kernel
theorem dX7_nearestOf_8 : decode cX7_nearestOf 8 = .ok (.if_icmp .ge 71, 3) := by decide +kernel
theorem dX7_nearestOf_11 : decode cX7_nearestOf 11 = .ok (.iload 4, 2) := by decide +kernel
theorem dX7_nearestOf_13 : decode cX7_nearestOf 13 = .ok (.iload_n 1, 1) := by decide +kernel
theorem dX7_nearestOf_14 : decode cX7_nearestOf 14 = .ok (.if_icmp .eq 59, 3) := by decide +kernel
theorem dX7_nearestOf_17 : decode cX7_nearestOf 17 = .ok (.iload 4, 2) := by decide +kernel
theorem dX7_nearestOf_19 : decode cX7_nearestOf 19 = .ok (.aload_n 0, 1) := by decide +kernel
theorem dX7_nearestOf_20 : decode cX7_nearestOf 20 = .ok (.getfield 26, 3) := by decide +kernel
theorem dX7_nearestOf_23 : decode cX7_nearestOf 23 = .ok (.if_icmp .ne 6, 3) := by decide +kernel
theorem dX7_nearestOf_26 : decode cX7_nearestOf 26 = .ok (.goto 47, 3) := by decide +kernel
theorem dX7_nearestOf_29 : decode cX7_nearestOf 29 = .ok (.iload_n 3, 1) := by decide +kernel
theorem dX7_nearestOf_30 : decode cX7_nearestOf 30 = .ok (.iconst (-1), 1) := by decide +kernel
theorem dX7_nearestOf_31 : decode cX7_nearestOf 31 = .ok (.if_icmp .eq 35, 3) := by decide +kernel
theorem dX7_nearestOf_34 : decode cX7_nearestOf 34 = .ok (.aload_n 0, 1) := by decide +kernel
theorem dX7_nearestOf_35 : decode cX7_nearestOf 35 = .ok (.aload_n 0, 1) := by decide +kernel
theorem dX7_nearestOf_36 : decode cX7_nearestOf 36 = .ok (.iload_n 1, 1) := by decide +kernel
theorem dX7_nearestOf_37 : decode cX7_nearestOf 37 = .ok (.invokevirtual 64, 3) := by decide +kernel
theorem dX7_nearestOf_40 : decode cX7_nearestOf 40 = .ok (.aload_n 0, 1) := by decide +kernel
theorem dX7_nearestOf_41 : decode cX7_nearestOf 41 = .ok (.iload 4, 2) := by decide +kernel
theorem dX7_nearestOf_43 : decode cX7_nearestOf 43 = .ok (.invokevirtual 64, 3) := by decide +kernel
theorem dX7_nearestOf_46 : decode cX7_nearestOf 46 = .ok (.invokevirtual 71, 3) := by decide +kernel
theorem dX7_nearestOf_49 : decode cX7_nearestOf 49 = .ok (.aload_n 0, 1) := by decide +kernel
theorem dX7_nearestOf_50 : decode cX7_nearestOf 50 = .ok (.aload_n 0, 1) := by decide +kernel
theorem dX7_nearestOf_51 : decode cX7_nearestOf 51 = .ok (.iload_n 1, 1) := by decide +kernel
theorem dX7_nearestOf_52 : decode cX7_nearestOf 52 = .ok (.invokevirtual 64, 3) := by decide +kernel
theorem dX7_nearestOf_55 : decode cX7_nearestOf 55 = .ok (.aload_n 0, 1) := by decide +kernel
theorem dX7_nearestOf_56 : decode cX7_nearestOf 56 = .ok (.iload_n 3, 1) := by decide +kernel
theorem dX7_nearestOf_57 : decode cX7_nearestOf 57 = .ok (.invokevirtual 64, 3) := by decide +kernel
theorem dX7_nearestOf_60 : decode cX7_nearestOf 60 = .ok (.invokevirtual 71, 3) := by decide +kernel
theorem dX7_nearestOf_63 : decode cX7_nearestOf 63 = .ok (.if_icmp .ge 8, 3) := by decide +kernel
theorem dX7_nearestOf_66 : decode cX7_nearestOf 66 = .ok (.iload 4, 2) := by decide +kernel
theorem dX7_nearestOf_68 : decode cX7_nearestOf 68 = .ok (.goto 4, 3) := by decide +kernel
theorem dX7_nearestOf_71 : decode cX7_nearestOf 71 = .ok (.iload_n 3, 1) := by decide +kernel
theorem dX7_nearestOf_72 : decode cX7_nearestOf 72 = .ok (.istore_n 3, 1) := by decide +kernel
theorem dX7_nearestOf_73 : decode cX7_nearestOf 73 = .ok (.iinc 4 1, 3) := by decide +kernel
theorem dX7_nearestOf_76 : decode cX7_nearestOf 76 = .ok (.goto (-71), 3) := by decide +kernel
theorem dX7_nearestOf_79 : decode cX7_nearestOf 79 = .ok (.iload_n 3, 1) := by decide +kernel
theorem dX7_nearestOf_80 : decode cX7_nearestOf 80 = .ok (.ireturn, 1) := by decide +kernel
set_option maxRecDepth 20000 in
theorem ggX7_farthestOf_X7_yard : GoodIn wsX7_farthestOf wsX7_yard := goodIn_r _ [7, 1, 15, 16, 17, 18, 19, 20, 21, 22, 23, 24, 25, 26, 27, 28, 29, 30, 31, 32, 33, 34, 35, 36, 37, 38, 39, 40, 41, 42] (by decide +kernel) (by decide +kernel)
set_option maxRecDepth 20000 in
theorem gX7_farthestOf_X7_yard : GoodIn wsX7_farthestOf (wsV RX7 64 RX7 yX7_yard wsX7_yard) := goodIn_app (goodIn_of _ (by decide +kernel)) ggX7_farthestOf_X7_yard
set_option maxRecDepth 20000 in
theorem ggX7_farthestOf_X7_farOf : GoodIn wsX7_farthestOf wsX7_farOf := goodIn_r _ [11, 1, 12, 13, 6, 14, 15, 16, 17, 18, 19, 20, 21, 22, 23, 24, 25, 26, 27, 28, 29, 30, 31, 32, 33, 34, 35, 36, 37, 38, 39, 40, 41, 42] (by decide +kernel) (by decide +kernel)
set_option maxRecDepth 20000 in
theorem gX7_farthestOf_X7_farOf : GoodIn wsX7_farthestOf (wsV RX7 71 RX7 yX7_farOf wsX7_farOf) := goodIn_app (goodIn_of _ (by decide +kernel)) ggX7_farthestOf_X7_farOf
theorem dX7_farthestOf_0 : decode cX7_farthestOf 0 = .ok (.iconst (-1), 1) := by decide +kernel
theorem dX7_farthestOf_1 : decode cX7_farthestOf 1 = .ok (.istore_n 2, 1) := by decide +kernel
theorem dX7_farthestOf_2 : decode cX7_farthestOf 2 = .ok (.iconst 0, 1) := by decide +kernel
theorem dX7_farthestOf_3 : decode cX7_farthestOf 3 = .ok (.istore_n 3, 1) := by decide +kernel
theorem dX7_farthestOf_4 : decode cX7_farthestOf 4 = .ok (.iload_n 3, 1) := by decide +kernel
theorem dX7_farthestOf_5 : decode cX7_farthestOf 5 = .ok (.aload_n 0, 1) := by decide +kernel
theorem dX7_farthestOf_6 : decode cX7_farthestOf 6 = .ok (.getfield 7, 3) := by decide +kernel
theorem dX7_farthestOf_9 : decode cX7_farthestOf 9 = .ok (.iconst 0, 1) := by decide +kernel
theorem dX7_farthestOf_10 : decode cX7_farthestOf 10 = .ok (.iaload, 1) := by decide +kernel
theorem dX7_farthestOf_11 : decode cX7_farthestOf 11 = .ok (.if_icmp .ge 67, 3) := by decide +kernel
theorem dX7_farthestOf_14 : decode cX7_farthestOf 14 = .ok (.iload_n 3, 1) := by decide +kernel
theorem dX7_farthestOf_15 : decode cX7_farthestOf 15 = .ok (.iload_n 1, 1) := by decide +kernel
theorem dX7_farthestOf_16 : decode cX7_farthestOf 16 = .ok (.if_icmp .eq 56, 3) := by decide +kernel
theorem dX7_farthestOf_19 : decode cX7_farthestOf 19 = .ok (.iload_n 3, 1) := by decide +kernel
theorem dX7_farthestOf_20 : decode cX7_farthestOf 20 = .ok (.aload_n 0, 1) := by decide +kernel
theorem dX7_farthestOf_21 : decode cX7_farthestOf 21 = .ok (.getfield 26, 3) := by decide +kernel
theorem dX7_farthestOf_24 : decode cX7_farthestOf 24 = .ok (.if_icmp .ne 6, 3) := by decide +kernel
theorem dX7_farthestOf_27 : decode cX7_farthestOf 27 = .ok (.goto 45, 3) := by decide +kernel
theorem dX7_farthestOf_30 : decode cX7_farthestOf 30 = .ok (.iload_n 2, 1) := by decide +kernel
theorem dX7_farthestOf_31 : decode cX7_farthestOf 31 = .ok (.iconst (-1), 1) := by decide +kernel
theorem dX7_farthestOf_32 : decode cX7_farthestOf 32 = .ok (.if_icmp .eq 34, 3) := by decide +kernel
theorem dX7_farthestOf_35 : decode cX7_farthestOf 35 = .ok (.aload_n 0, 1) := by decide +kernel
theorem dX7_farthestOf_36 : decode cX7_farthestOf 36 = .ok (.aload_n 0, 1) := by decide +kernel
theorem dX7_farthestOf_37 : decode cX7_farthestOf 37 = .ok (.iload_n 1, 1) := by decide +kernel
theorem dX7_farthestOf_38 : decode cX7_farthestOf 38 = .ok (.invokevirtual 64, 3) := by decide +kernel
theorem dX7_farthestOf_41 : decode cX7_farthestOf 41 = .ok (.aload_n 0, 1) := by decide +kernel
theorem dX7_farthestOf_42 : decode cX7_farthestOf 42 = .ok (.iload_n 3, 1) := by decide +kernel
theorem dX7_farthestOf_43 : decode cX7_farthestOf 43 = .ok (.invokevirtual 64, 3) := by decide +kernel
theorem dX7_farthestOf_46 : decode cX7_farthestOf 46 = .ok (.invokevirtual 71, 3) := by decide +kernel
theorem dX7_farthestOf_49 : decode cX7_farthestOf 49 = .ok (.aload_n 0, 1) := by decide +kernel
theorem dX7_farthestOf_50 : decode cX7_farthestOf 50 = .ok (.aload_n 0, 1) := by decide +kernel
theorem dX7_farthestOf_51 : decode cX7_farthestOf 51 = .ok (.iload_n 1, 1) := by decide +kernel
theorem dX7_farthestOf_52 : decode cX7_farthestOf 52 = .ok (.invokevirtual 64, 3) := by decide +kernel
theorem dX7_farthestOf_55 : decode cX7_farthestOf 55 = .ok (.aload_n 0, 1) := by decide +kernel
theorem dX7_farthestOf_56 : decode cX7_farthestOf 56 = .ok (.iload_n 2, 1) := by decide +kernel
theorem dX7_farthestOf_57 : decode cX7_farthestOf 57 = .ok (.invokevirtual 64, 3) := by decide +kernel
theorem dX7_farthestOf_60 : decode cX7_farthestOf 60 = .ok (.invokevirtual 71, 3) := by decide +kernel
theorem dX7_farthestOf_63 : decode cX7_farthestOf 63 = .ok (.if_icmp .le 7, 3) := by decide +kernel
theorem dX7_farthestOf_66 : decode cX7_farthestOf 66 = .ok (.iload_n 3, 1) := by decide +kernel
theorem dX7_farthestOf_67 : decode cX7_farthestOf 67 = .ok (.goto 4, 3) := by decide +kernel
theorem dX7_farthestOf_70 : decode cX7_farthestOf 70 = .ok (.iload_n 2, 1) := by decide +kernel
theorem dX7_farthestOf_71 : decode cX7_farthestOf 71 = .ok (.istore_n 2, 1) := by decide +kernel
theorem dX7_farthestOf_72 : decode cX7_farthestOf 72 = .ok (.iinc 3 1, 3) := by decide +kernel
theorem dX7_farthestOf_75 : decode cX7_farthestOf 75 = .ok (.goto (-71), 3) := by decide +kernel
theorem dX7_farthestOf_78 : decode cX7_farthestOf 78 = .ok (.iload_n 2, 1) := by decide +kernel
theorem dX7_farthestOf_79 : decode cX7_farthestOf 79 = .ok (.ireturn, 1) := by decide +kernel
set_option maxRecDepth 20000 in
theorem ggX7_listen_X7_kind : GoodIn wsX7_listen wsX7_kind := goodIn_r _ [8, 1, 29, 30, 31, 32, 33, 34, 35, 36, 37, 38, 39, 40, 41, 42, 43, 44, 45, 46, 47, 48, 49, 50, 51, 52, 53, 54, 55, 56] (by decide +kernel) (by decide +kernel)
set_option maxRecDepth 20000 in
theorem gX7_listen_X7_kind : GoodIn wsX7_listen (wsV RX7 75 RX7 yX7_kind wsX7_kind) := goodIn_app (goodIn_of _ (by decide +kernel)) ggX7_listen_X7_kind
set_option maxRecDepth 20000 in
theorem ggX7_listen_X7_nearestOf : GoodIn wsX7_listen wsX7_nearestOf := goodIn_r _ [12, 13, 14, 15, 16, 7, 17, 1, 18, 19, 20, 21, 22, 23, 24, 29, 30, 31, 32, 33, 34, 35, 36, 37, 38, 39, 40, 41, 42, 43, 44, 45, 46, 47, 48, 49, 50, 51, 52, 53, 54, 55, 56] (by decide +kernel) (by decide +kernel)
set_option maxRecDepth 20000 in
theorem gX7_listen_X7_nearestOf : GoodIn wsX7_listen (wsV RX7 78 RX7 yX7_nearestOf wsX7_nearestOf) := goodIn_app (goodIn_of _ (by decide +kernel)) ggX7_listen_X7_nearestOf
set_option maxRecDepth 20000 in
theorem ggX7_listen_X7_farthestOf : GoodIn wsX7_listen wsX7_farthestOf := goodIn_r _ [28, 1, 13, 14, 15, 16, 7, 17, 18, 19, 20, 21, 22, 23, 24, 29, 30, 31, 32, 33, 34, 35, 36, 37, 38, 39, 40, 41, 42, 43, 44, 45, 46, 47, 48, 49, 50, 51, 52, 53, 54, 55, 56] (by decide +kernel) (by decide +kernel)
set_option maxRecDepth 20000 in
theorem gX7_listen_X7_farthestOf : GoodIn wsX7_listen (wsV RX7 81 RX7 yX7_farthestOf wsX7_farthestOf) := goodIn_app (goodIn_of _ (by decide +kernel)) ggX7_listen_X7_farthestOf
theorem dX7_listen_0 : decode cX7_listen 0 = .ok (.iconst 0, 1) := by decide +kernel
theorem dX7_listen_1 : decode cX7_listen 1 = .ok (.istore_n 1, 1) := by decide +kernel
theorem dX7_listen_2 : decode cX7_listen 2 = .ok (.iload_n 1, 1) := by decide +kernel
theorem dX7_listen_3 : decode cX7_listen 3 = .ok (.aload_n 0, 1) := by decide +kernel
theorem dX7_listen_4 : decode cX7_listen 4 = .ok (.getfield 7, 3) := by decide +kernel
theorem dX7_listen_7 : decode cX7_listen 7 = .ok (.iconst 0, 1) := by decide +kernel
theorem dX7_listen_8 : decode cX7_listen 8 = .ok (.iaload, 1) := by decide +kernel
theorem dX7_listen_9 : decode cX7_listen 9 = .ok (.if_icmp .ge 77, 3) := by decide +kernel
theorem dX7_listen_12 : decode cX7_listen 12 = .ok (.aload_n 0, 1) := by decide +kernel
theorem dX7_listen_13 : decode cX7_listen 13 = .ok (.iload_n 1, 1) := by decide +kernel
theorem dX7_listen_14 : decode cX7_listen 14 = .ok (.invokevirtual 75, 3) := by decide +kernel
theorem dX7_listen_17 : decode cX7_listen 17 = .ok (.istore_n 2, 1) := by decide +kernel
theorem dX7_listen_18 : decode cX7_listen 18 = .ok (.aload_n 0, 1) := by decide +kernel
theorem dX7_listen_19 : decode cX7_listen 19 = .ok (.getfield 33, 3) := by decide +kernel
theorem dX7_listen_22 : decode cX7_listen 22 = .ok (.iload_n 1, 1) := by decide +kernel
theorem dX7_listen_23 : decode cX7_listen 23 = .ok (.aload_n 0, 1) := by decide +kernel
theorem dX7_listen_24 : decode cX7_listen 24 = .ok (.iload_n 1, 1) := by decide +kernel
theorem dX7_listen_25 : decode cX7_listen 25 = .ok (.aload_n 0, 1) := by decide +kernel
theorem dX7_listen_26 : decode cX7_listen 26 = .ok (.getfield 7, 3) := by decide +kernel
theorem dX7_listen_29 : decode cX7_listen 29 = .ok (.iconst 0, 1) := by decide +kernel
theorem dX7_listen_30 : decode cX7_listen 30 = .ok (.iaload, 1) := by decide +kernel
theorem dX7_listen_31 : decode cX7_listen 31 = .ok (.invokevirtual 78, 3) := by decide +kernel
theorem dX7_listen_34 : decode cX7_listen 34 = .ok (.iastore, 1) := by decide +kernel
theorem dX7_listen_35 : decode cX7_listen 35 = .ok (.aload_n 0, 1) := by decide +kernel
theorem dX7_listen_36 : decode cX7_listen 36 = .ok (.getfield 30, 3) := by decide +kernel
theorem dX7_listen_39 : decode cX7_listen 39 = .ok (.iload_n 1, 1) := by decide +kernel
theorem dX7_listen_40 : decode cX7_listen 40 = .ok (.iload_n 2, 1) := by decide +kernel
theorem dX7_listen_41 : decode cX7_listen 41 = .ok (.iconst 1, 1) := by decide +kernel
theorem dX7_listen_42 : decode cX7_listen 42 = .ok (.if_icmp .eq 8, 3) := by decide +kernel
theorem dX7_listen_45 : decode cX7_listen 45 = .ok (.iload_n 2, 1) := by decide +kernel
theorem dX7_listen_46 : decode cX7_listen 46 = .ok (.iconst 4, 1) := by decide +kernel
theorem dX7_listen_47 : decode cX7_listen 47 = .ok (.if_icmp .ne 12, 3) := by decide +kernel
theorem dX7_listen_50 : decode cX7_listen 50 = .ok (.aload_n 0, 1) := by decide +kernel
theorem dX7_listen_51 : decode cX7_listen 51 = .ok (.iload_n 1, 1) := by decide +kernel
theorem dX7_listen_52 : decode cX7_listen 52 = .ok (.iload_n 1, 1) := by decide +kernel
theorem dX7_listen_53 : decode cX7_listen 53 = .ok (.invokevirtual 78, 3) := by decide +kernel
theorem dX7_listen_56 : decode cX7_listen 56 = .ok (.goto 23, 3) := by decide +kernel
theorem dX7_listen_59 : decode cX7_listen 59 = .ok (.iload_n 2, 1) := by decide +kernel
theorem dX7_listen_60 : decode cX7_listen 60 = .ok (.bipush 6, 2) := by decide +kernel
theorem dX7_listen_62 : decode cX7_listen 62 = .ok (.if_icmp .ne 11, 3) := by decide +kernel
theorem dX7_listen_65 : decode cX7_listen 65 = .ok (.aload_n 0, 1) := by decide +kernel
theorem dX7_listen_66 : decode cX7_listen 66 = .ok (.iload_n 1, 1) := by decide +kernel
theorem dX7_listen_67 : decode cX7_listen 67 = .ok (.invokevirtual 81, 3) := by decide +kernel
theorem dX7_listen_70 : decode cX7_listen 70 = .ok (.goto 9, 3) := by decide +kernel
theorem dX7_listen_73 : decode cX7_listen 73 = .ok (.aload_n 0, 1) := by decide +kernel
theorem dX7_listen_74 : decode cX7_listen 74 = .ok (.getfield 33, 3) := by decide +kernel
theorem dX7_listen_77 : decode cX7_listen 77 = .ok (.iload_n 1, 1) := by decide +kernel
theorem dX7_listen_78 : decode cX7_listen 78 = .ok (.iaload, 1) := by decide +kernel
theorem dX7_listen_79 : decode cX7_listen 79 = .ok (.iastore, 1) := by decide +kernel
theorem dX7_listen_80 : decode cX7_listen 80 = .ok (.iinc 1 1, 3) := by decide +kernel
theorem dX7_listen_83 : decode cX7_listen 83 = .ok (.goto (-81), 3) := by decide +kernel
theorem dX7_listen_86 : decode cX7_listen 86 = .ok (.return_, 1) := by decide +kernel
set_option maxRecDepth 20000 in
theorem ggX7_willSay_X7_kind : GoodIn wsX7_willSay wsX7_kind := goodIn_r _ [7, 8, 9, 10, 11, 12, 13, 14, 15, 16, 17, 18, 19, 20, 21, 22, 23, 24, 25, 26, 27, 28, 29, 30, 31, 32, 33, 34, 35, 36] (by decide +kernel) (by decide +kernel)
set_option maxRecDepth 20000 in
theorem gX7_willSay_X7_kind : GoodIn wsX7_willSay (wsV RX7 75 RX7 yX7_kind wsX7_kind) := goodIn_app (goodIn_of _ (by decide +kernel)) ggX7_willSay_X7_kind
theorem dX7_willSay_0 : decode cX7_willSay 0 = .ok (.iload_n 2, 1) := by decide +kernel
theorem dX7_willSay_1 : decode cX7_willSay 1 = .ok (.iload_n 1, 1) := by decide +kernel
theorem dX7_willSay_2 : decode cX7_willSay 2 = .ok (.ishr, 1) := by decide +kernel
theorem dX7_willSay_3 : decode cX7_willSay 3 = .ok (.iconst 1, 1) := by decide +kernel
theorem dX7_willSay_4 : decode cX7_willSay 4 = .ok (.iand, 1) := by decide +kernel
theorem dX7_willSay_5 : decode cX7_willSay 5 = .ok (.istore_n 3, 1) := by decide +kernel
theorem dX7_willSay_6 : decode cX7_willSay 6 = .ok (.aload_n 0, 1) := by decide +kernel
theorem dX7_willSay_7 : decode cX7_willSay 7 = .ok (.getfield 30, 3) := by decide +kernel
theorem dX7_willSay_10 : decode cX7_willSay 10 = .ok (.iload_n 1, 1) := by decide +kernel
theorem dX7_willSay_11 : decode cX7_willSay 11 = .ok (.iaload, 1) := by decide +kernel
theorem dX7_willSay_12 : decode cX7_willSay 12 = .ok (.iconst (-1), 1) := by decide +kernel
theorem dX7_willSay_13 : decode cX7_willSay 13 = .ok (.if_icmp .ne 7, 3) := by decide +kernel
theorem dX7_willSay_16 : decode cX7_willSay 16 = .ok (.iload_n 3, 1) := by decide +kernel
theorem dX7_willSay_17 : decode cX7_willSay 17 = .ok (.goto 13, 3) := by decide +kernel
theorem dX7_willSay_20 : decode cX7_willSay 20 = .ok (.iload_n 2, 1) := by decide +kernel
theorem dX7_willSay_21 : decode cX7_willSay 21 = .ok (.aload_n 0, 1) := by decide +kernel
theorem dX7_willSay_22 : decode cX7_willSay 22 = .ok (.getfield 30, 3) := by decide +kernel
theorem dX7_willSay_25 : decode cX7_willSay 25 = .ok (.iload_n 1, 1) := by decide +kernel
theorem dX7_willSay_26 : decode cX7_willSay 26 = .ok (.iaload, 1) := by decide +kernel
theorem dX7_willSay_27 : decode cX7_willSay 27 = .ok (.ishr, 1) := by decide +kernel
theorem dX7_willSay_28 : decode cX7_willSay 28 = .ok (.iconst 1, 1) := by decide +kernel
theorem dX7_willSay_29 : decode cX7_willSay 29 = .ok (.iand, 1) := by decide +kernel
theorem dX7_willSay_30 : decode cX7_willSay 30 = .ok (.istore 4, 2) := by decide +kernel
theorem dX7_willSay_32 : decode cX7_willSay 32 = .ok (.aload_n 0, 1) := by decide +kernel
theorem dX7_willSay_33 : decode cX7_willSay 33 = .ok (.iload_n 1, 1) := by decide +kernel
theorem dX7_willSay_34 : decode cX7_willSay 34 = .ok (.invokevirtual 75, 3) := by decide +kernel
theorem dX7_willSay_37 : decode cX7_willSay 37 = .ok (.tableswitch 90 2 6 #[35, 37, 39, 71, 71], 35) := by decide +kernel
theorem dX7_willSay_72 : decode cX7_willSay 72 = .ok (.iconst 1, 1) := by decide +kernel
theorem dX7_willSay_73 : decode cX7_willSay 73 = .ok (.ireturn, 1) := by decide +kernel
theorem dX7_willSay_74 : decode cX7_willSay 74 = .ok (.iload_n 3, 1) := by decide +kernel
theorem dX7_willSay_75 : decode cX7_willSay 75 = .ok (.ireturn, 1) := by decide +kernel
theorem dX7_willSay_76 : decode cX7_willSay 76 = .ok (.aload_n 0, 1) := by decide +kernel
theorem dX7_willSay_77 : decode cX7_willSay 77 = .ok (.getfield 33, 3) := by decide +kernel
theorem dX7_willSay_80 : decode cX7_willSay 80 = .ok (.iload_n 1, 1) := by decide +kernel
theorem dX7_willSay_81 : decode cX7_willSay 81 = .ok (.iaload, 1) := by decide +kernel
theorem dX7_willSay_82 : decode cX7_willSay 82 = .ok (.iconst (-1), 1) := by decide +kernel
theorem dX7_willSay_83 : decode cX7_willSay 83 = .ok (.if_icmp .eq 22, 3) := by decide +kernel
theorem dX7_willSay_86 : decode cX7_willSay 86 = .ok (.iload_n 2, 1) := by decide +kernel
theorem dX7_willSay_87 : decode cX7_willSay 87 = .ok (.aload_n 0, 1) := by decide +kernel
theorem dX7_willSay_88 : decode cX7_willSay 88 = .ok (.getfield 33, 3) := by decide +kernel
theorem dX7_willSay_91 : decode cX7_willSay 91 = .ok (.iload_n 1, 1) := by decide +kernel
theorem dX7_willSay_92 : decode cX7_willSay 92 = .ok (.iaload, 1) := by decide +kernel
theorem dX7_willSay_93 : decode cX7_willSay 93 = .ok (.ishr, 1) := by decide +kernel
theorem dX7_willSay_94 : decode cX7_willSay 94 = .ok (.iconst 1, 1) := by decide +kernel
theorem dX7_willSay_95 : decode cX7_willSay 95 = .ok (.iand, 1) := by decide +kernel
theorem dX7_willSay_96 : decode cX7_willSay 96 = .ok (.iload 4, 2) := by decide +kernel
theorem dX7_willSay_98 : decode cX7_willSay 98 = .ok (.if_icmp .eq 7, 3) := by decide +kernel
theorem dX7_willSay_101 : decode cX7_willSay 101 = .ok (.iload_n 3, 1) := by decide +kernel
theorem dX7_willSay_102 : decode cX7_willSay 102 = .ok (.goto 5, 3) := by decide +kernel
theorem dX7_willSay_105 : decode cX7_willSay 105 = .ok (.iload 4, 2) := by decide +kernel
theorem dX7_willSay_107 : decode cX7_willSay 107 = .ok (.ireturn, 1) := by decide +kernel
theorem dX7_willSay_108 : decode cX7_willSay 108 = .ok (.aload_n 0, 1) := by decide +kernel
theorem dX7_willSay_109 : decode cX7_willSay 109 = .ok (.getfield 30, 3) := by decide +kernel
theorem dX7_willSay_112 : decode cX7_willSay 112 = .ok (.iload_n 1, 1) := by decide +kernel
theorem dX7_willSay_113 : decode cX7_willSay 113 = .ok (.iaload, 1) := by decide +kernel
theorem dX7_willSay_114 : decode cX7_willSay 114 = .ok (.iconst (-1), 1) := by decide +kernel
theorem dX7_willSay_115 : decode cX7_willSay 115 = .ok (.if_icmp .ne 7, 3) := by decide +kernel
theorem dX7_willSay_118 : decode cX7_willSay 118 = .ok (.iload_n 3, 1) := by decide +kernel
theorem dX7_willSay_119 : decode cX7_willSay 119 = .ok (.goto 7, 3) := by decide +kernel
theorem dX7_willSay_122 : decode cX7_willSay 122 = .ok (.iconst 1, 1) := by decide +kernel
theorem dX7_willSay_123 : decode cX7_willSay 123 = .ok (.iload 4, 2) := by decide +kernel
theorem dX7_willSay_125 : decode cX7_willSay 125 = .ok (.isub, 1) := by decide +kernel
theorem dX7_willSay_126 : decode cX7_willSay 126 = .ok (.ireturn, 1) := by decide +kernel
theorem dX7_willSay_127 : decode cX7_willSay 127 = .ok (.iload 4, 2) := by decide +kernel
theorem dX7_willSay_129 : decode cX7_willSay 129 = .ok (.ireturn, 1) := by decide +kernel
set_option maxRecDepth 20000 in
theorem ggX7_nextOf_X7_willSay : GoodIn wsX7_nextOf wsX7_willSay := goodIn_r _ [6, 7, 8, 9, 10, 11, 5, 12, 1, 13, 14, 15, 16, 17, 18, 19, 20, 21, 22, 23, 24, 25, 26, 27, 28, 29, 30, 31, 32, 33, 34, 35, 36, 37, 38, 39, 40] (by decide +kernel) (by decide +kernel)
set_option maxRecDepth 20000 in
theorem gX7_nextOf_X7_willSay : GoodIn wsX7_nextOf (wsV RX7 84 RX7 yX7_willSay wsX7_willSay) := goodIn_app (goodIn_of _ (by decide +kernel)) ggX7_nextOf_X7_willSay
theorem dX7_nextOf_0 : decode cX7_nextOf 0 = .ok (.iconst 0, 1) := by decide +kernel
theorem dX7_nextOf_1 : decode cX7_nextOf 1 = .ok (.istore_n 2, 1) := by decide +kernel
theorem dX7_nextOf_2 : decode cX7_nextOf 2 = .ok (.iconst 0, 1) := by decide +kernel
theorem dX7_nextOf_3 : decode cX7_nextOf 3 = .ok (.istore_n 3, 1) := by decide +kernel
theorem dX7_nextOf_4 : decode cX7_nextOf 4 = .ok (.iload_n 3, 1) := by decide +kernel
theorem dX7_nextOf_5 : decode cX7_nextOf 5 = .ok (.aload_n 0, 1) := by decide +kernel
theorem dX7_nextOf_6 : decode cX7_nextOf 6 = .ok (.getfield 7, 3) := by decide +kernel
theorem dX7_nextOf_9 : decode cX7_nextOf 9 = .ok (.iconst 0, 1) := by decide +kernel
theorem dX7_nextOf_10 : decode cX7_nextOf 10 = .ok (.iaload, 1) := by decide +kernel
theorem dX7_nextOf_11 : decode cX7_nextOf 11 = .ok (.if_icmp .ge 20, 3) := by decide +kernel
theorem dX7_nextOf_14 : decode cX7_nextOf 14 = .ok (.iload_n 2, 1) := by decide +kernel
theorem dX7_nextOf_15 : decode cX7_nextOf 15 = .ok (.aload_n 0, 1) := by decide +kernel
theorem dX7_nextOf_16 : decode cX7_nextOf 16 = .ok (.iload_n 3, 1) := by decide +kernel
theorem dX7_nextOf_17 : decode cX7_nextOf 17 = .ok (.iload_n 1, 1) := by decide +kernel
theorem dX7_nextOf_18 : decode cX7_nextOf 18 = .ok (.invokevirtual 84, 3) := by decide +kernel
theorem dX7_nextOf_21 : decode cX7_nextOf 21 = .ok (.iload_n 3, 1) := by decide +kernel
theorem dX7_nextOf_22 : decode cX7_nextOf 22 = .ok (.ishl, 1) := by decide +kernel
theorem dX7_nextOf_23 : decode cX7_nextOf 23 = .ok (.ior, 1) := by decide +kernel
theorem dX7_nextOf_24 : decode cX7_nextOf 24 = .ok (.istore_n 2, 1) := by decide +kernel
theorem dX7_nextOf_25 : decode cX7_nextOf 25 = .ok (.iinc 3 1, 3) := by decide +kernel
theorem dX7_nextOf_28 : decode cX7_nextOf 28 = .ok (.goto (-24), 3) := by decide +kernel
theorem dX7_nextOf_31 : decode cX7_nextOf 31 = .ok (.iload_n 2, 1) := by decide +kernel
theorem dX7_nextOf_32 : decode cX7_nextOf 32 = .ok (.ireturn, 1) := by decide +kernel
set_option maxRecDepth 20000 in
theorem ggX7_goThrough_X7_nextOf : GoodIn wsX7_goThrough wsX7_nextOf := goodIn_r _ [9, 10, 11, 12, 13, 8, 14, 15, 16, 17, 18, 19, 20, 21, 22, 23, 24, 25, 26, 27, 28, 29, 30, 31, 32, 33, 34, 35, 36, 37, 38, 39, 40, 41, 42, 43, 44, 45, 46, 47, 48] (by decide +kernel) (by decide +kernel)
set_option maxRecDepth 20000 in
theorem gX7_goThrough_X7_nextOf : GoodIn wsX7_goThrough (wsV RX7 87 RX7 yX7_nextOf wsX7_nextOf) := goodIn_app (goodIn_of _ (by decide +kernel)) ggX7_goThrough_X7_nextOf
theorem dX7_goThrough_0 : decode cX7_goThrough 0 = .ok (.iconst 0, 1) := by decide +kernel
theorem dX7_goThrough_1 : decode cX7_goThrough 1 = .ok (.istore_n 2, 1) := by decide +kernel
theorem dX7_goThrough_2 : decode cX7_goThrough 2 = .ok (.iload_n 2, 1) := by decide +kernel
theorem dX7_goThrough_3 : decode cX7_goThrough 3 = .ok (.sipush 1024, 3) := by decide +kernel
theorem dX7_goThrough_6 : decode cX7_goThrough 6 = .ok (.if_icmp .ge 16, 3) := by decide +kernel
theorem dX7_goThrough_9 : decode cX7_goThrough 9 = .ok (.aload_n 0, 1) := by decide +kernel
theorem dX7_goThrough_10 : decode cX7_goThrough 10 = .ok (.getfield 36, 3) := by decide +kernel
theorem dX7_goThrough_13 : decode cX7_goThrough 13 = .ok (.iload_n 2, 1) := by decide +kernel
theorem dX7_goThrough_14 : decode cX7_goThrough 14 = .ok (.iconst 0, 1) := by decide +kernel
theorem dX7_goThrough_15 : decode cX7_goThrough 15 = .ok (.iastore, 1) := by decide +kernel
theorem dX7_goThrough_16 : decode cX7_goThrough 16 = .ok (.iinc 2 1, 3) := by decide +kernel
theorem dX7_goThrough_19 : decode cX7_goThrough 19 = .ok (.goto (-17), 3) := by decide +kernel
theorem dX7_goThrough_22 : decode cX7_goThrough 22 = .ok (.iload_n 1, 1) := by decide +kernel
theorem dX7_goThrough_23 : decode cX7_goThrough 23 = .ok (.istore_n 2, 1) := by decide +kernel
theorem dX7_goThrough_24 : decode cX7_goThrough 24 = .ok (.iconst 0, 1) := by decide +kernel
theorem dX7_goThrough_25 : decode cX7_goThrough 25 = .ok (.istore_n 3, 1) := by decide +kernel
theorem dX7_goThrough_26 : decode cX7_goThrough 26 = .ok (.aload_n 0, 1) := by decide +kernel
theorem dX7_goThrough_27 : decode cX7_goThrough 27 = .ok (.getfield 36, 3) := by decide +kernel
theorem dX7_goThrough_30 : decode cX7_goThrough 30 = .ok (.iload_n 2, 1) := by decide +kernel
theorem dX7_goThrough_31 : decode cX7_goThrough 31 = .ok (.iaload, 1) := by decide +kernel
theorem dX7_goThrough_32 : decode cX7_goThrough 32 = .ok (.ifCond .ne 31, 3) := by decide +kernel
theorem dX7_goThrough_35 : decode cX7_goThrough 35 = .ok (.aload_n 0, 1) := by decide +kernel
theorem dX7_goThrough_36 : decode cX7_goThrough 36 = .ok (.getfield 36, 3) := by decide +kernel
theorem dX7_goThrough_39 : decode cX7_goThrough 39 = .ok (.iload_n 2, 1) := by decide +kernel
theorem dX7_goThrough_40 : decode cX7_goThrough 40 = .ok (.iload_n 3, 1) := by decide +kernel
theorem dX7_goThrough_41 : decode cX7_goThrough 41 = .ok (.iconst 1, 1) := by decide +kernel
theorem dX7_goThrough_42 : decode cX7_goThrough 42 = .ok (.iadd, 1) := by decide +kernel
theorem dX7_goThrough_43 : decode cX7_goThrough 43 = .ok (.iastore, 1) := by decide +kernel
theorem dX7_goThrough_44 : decode cX7_goThrough 44 = .ok (.aload_n 0, 1) := by decide +kernel
theorem dX7_goThrough_45 : decode cX7_goThrough 45 = .ok (.getfield 39, 3) := by decide +kernel
theorem dX7_goThrough_48 : decode cX7_goThrough 48 = .ok (.iload_n 3, 1) := by decide +kernel
theorem dX7_goThrough_49 : decode cX7_goThrough 49 = .ok (.iload_n 2, 1) := by decide +kernel
theorem dX7_goThrough_50 : decode cX7_goThrough 50 = .ok (.iastore, 1) := by decide +kernel
theorem dX7_goThrough_51 : decode cX7_goThrough 51 = .ok (.iinc 3 1, 3) := by decide +kernel
theorem dX7_goThrough_54 : decode cX7_goThrough 54 = .ok (.aload_n 0, 1) := by decide +kernel
theorem dX7_goThrough_55 : decode cX7_goThrough 55 = .ok (.iload_n 2, 1) := by decide +kernel
theorem dX7_goThrough_56 : decode cX7_goThrough 56 = .ok (.invokevirtual 87, 3) := by decide +kernel
theorem dX7_goThrough_59 : decode cX7_goThrough 59 = .ok (.istore_n 2, 1) := by decide +kernel
theorem dX7_goThrough_60 : decode cX7_goThrough 60 = .ok (.goto (-34), 3) := by decide +kernel
theorem dX7_goThrough_63 : decode cX7_goThrough 63 = .ok (.aload_n 0, 1) := by decide +kernel
theorem dX7_goThrough_64 : decode cX7_goThrough 64 = .ok (.aload_n 0, 1) := by decide +kernel
theorem dX7_goThrough_65 : decode cX7_goThrough 65 = .ok (.getfield 36, 3) := by decide +kernel
theorem dX7_goThrough_68 : decode cX7_goThrough 68 = .ok (.iload_n 2, 1) := by decide +kernel
theorem dX7_goThrough_69 : decode cX7_goThrough 69 = .ok (.iaload, 1) := by decide +kernel
theorem dX7_goThrough_70 : decode cX7_goThrough 70 = .ok (.iconst 1, 1) := by decide +kernel
theorem dX7_goThrough_71 : decode cX7_goThrough 71 = .ok (.isub, 1) := by decide +kernel
theorem dX7_goThrough_72 : decode cX7_goThrough 72 = .ok (.putfield 90, 3) := by decide +kernel
theorem dX7_goThrough_75 : decode cX7_goThrough 75 = .ok (.aload_n 0, 1) := by decide +kernel
theorem dX7_goThrough_76 : decode cX7_goThrough 76 = .ok (.iload_n 3, 1) := by decide +kernel
theorem dX7_goThrough_77 : decode cX7_goThrough 77 = .ok (.aload_n 0, 1) := by decide +kernel
theorem dX7_goThrough_78 : decode cX7_goThrough 78 = .ok (.getfield 90, 3) := by decide +kernel
theorem dX7_goThrough_81 : decode cX7_goThrough 81 = .ok (.isub, 1) := by decide +kernel
theorem dX7_goThrough_82 : decode cX7_goThrough 82 = .ok (.putfield 93, 3) := by decide +kernel
theorem dX7_goThrough_85 : decode cX7_goThrough 85 = .ok (.return_, 1) := by decide +kernel
theorem dX7_saidBehind_0 : decode cX7_saidBehind 0 = .ok (.iload_n 1, 1) := by decide +kernel
theorem dX7_saidBehind_1 : decode cX7_saidBehind 1 = .ok (.aload_n 0, 1) := by decide +kernel
theorem dX7_saidBehind_2 : decode cX7_saidBehind 2 = .ok (.getfield 90, 3) := by decide +kernel
theorem dX7_saidBehind_5 : decode cX7_saidBehind 5 = .ok (.if_icmp .ge 12, 3) := by decide +kernel
theorem dX7_saidBehind_8 : decode cX7_saidBehind 8 = .ok (.aload_n 0, 1) := by decide +kernel
theorem dX7_saidBehind_9 : decode cX7_saidBehind 9 = .ok (.getfield 39, 3) := by decide +kernel
theorem dX7_saidBehind_12 : decode cX7_saidBehind 12 = .ok (.iload_n 1, 1) := by decide +kernel
theorem dX7_saidBehind_13 : decode cX7_saidBehind 13 = .ok (.iaload, 1) := by decide +kernel
theorem dX7_saidBehind_14 : decode cX7_saidBehind 14 = .ok (.goto 24, 3) := by decide +kernel
theorem dX7_saidBehind_17 : decode cX7_saidBehind 17 = .ok (.aload_n 0, 1) := by decide +kernel
theorem dX7_saidBehind_18 : decode cX7_saidBehind 18 = .ok (.getfield 39, 3) := by decide +kernel
theorem dX7_saidBehind_21 : decode cX7_saidBehind 21 = .ok (.aload_n 0, 1) := by decide +kernel
theorem dX7_saidBehind_22 : decode cX7_saidBehind 22 = .ok (.getfield 90, 3) := by decide +kernel
theorem dX7_saidBehind_25 : decode cX7_saidBehind 25 = .ok (.iload_n 1, 1) := by decide +kernel
theorem dX7_saidBehind_26 : decode cX7_saidBehind 26 = .ok (.aload_n 0, 1) := by decide +kernel
theorem dX7_saidBehind_27 : decode cX7_saidBehind 27 = .ok (.getfield 90, 3) := by decide +kernel
theorem dX7_saidBehind_30 : decode cX7_saidBehind 30 = .ok (.isub, 1) := by decide +kernel
theorem dX7_saidBehind_31 : decode cX7_saidBehind 31 = .ok (.aload_n 0, 1) := by decide +kernel
theorem dX7_saidBehind_32 : decode cX7_saidBehind 32 = .ok (.getfield 93, 3) := by decide +kernel
theorem dX7_saidBehind_35 : decode cX7_saidBehind 35 = .ok (.irem, 1) := by decide +kernel
theorem dX7_saidBehind_36 : decode cX7_saidBehind 36 = .ok (.iadd, 1) := by decide +kernel
theorem dX7_saidBehind_37 : decode cX7_saidBehind 37 = .ok (.iaload, 1) := by decide +kernel
theorem dX7_saidBehind_38 : decode cX7_saidBehind 38 = .ok (.ireturn, 1) := by decide +kernel
set_option maxRecDepth 20000 in
theorem ggX7_ahead_X7_nextOf : GoodIn wsX7_ahead wsX7_nextOf := goodIn_r _ [5, 6, 7, 8, 9, 4, 10, 11, 12, 13, 14, 15, 16, 17, 18, 19, 20, 21, 22, 23, 24, 25, 26, 27, 28, 29, 30, 31, 32, 33, 34, 35, 36, 37, 38, 39, 40, 41, 42, 43, 44] (by decide +kernel) (by decide +kernel)
set_option maxRecDepth 20000 in
theorem gX7_ahead_X7_nextOf : GoodIn wsX7_ahead (wsV RX7 87 RX7 yX7_nextOf wsX7_nextOf) := goodIn_app (goodIn_of _ (by decide +kernel)) ggX7_ahead_X7_nextOf
theorem dX7_ahead_0 : decode cX7_ahead 0 = .ok (.iload_n 1, 1) := by decide +kernel
theorem dX7_ahead_1 : decode cX7_ahead 1 = .ok (.istore_n 3, 1) := by decide +kernel
theorem dX7_ahead_2 : decode cX7_ahead 2 = .ok (.iconst 0, 1) := by decide +kernel
theorem dX7_ahead_3 : decode cX7_ahead 3 = .ok (.istore 4, 2) := by decide +kernel
theorem dX7_ahead_5 : decode cX7_ahead 5 = .ok (.iload 4, 2) := by decide +kernel
theorem dX7_ahead_7 : decode cX7_ahead 7 = .ok (.iload_n 2, 1) := by decide +kernel
theorem dX7_ahead_8 : decode cX7_ahead 8 = .ok (.if_icmp .ge 15, 3) := by decide +kernel
theorem dX7_ahead_11 : decode cX7_ahead 11 = .ok (.aload_n 0, 1) := by decide +kernel
theorem dX7_ahead_12 : decode cX7_ahead 12 = .ok (.iload_n 3, 1) := by decide +kernel
theorem dX7_ahead_13 : decode cX7_ahead 13 = .ok (.invokevirtual 87, 3) := by decide +kernel
theorem dX7_ahead_16 : decode cX7_ahead 16 = .ok (.istore_n 3, 1) := by decide +kernel
theorem dX7_ahead_17 : decode cX7_ahead 17 = .ok (.iinc 4 1, 3) := by decide +kernel
theorem dX7_ahead_20 : decode cX7_ahead 20 = .ok (.goto (-15), 3) := by decide +kernel
theorem dX7_ahead_23 : decode cX7_ahead 23 = .ok (.iload_n 3, 1) := by decide +kernel
theorem dX7_ahead_24 : decode cX7_ahead 24 = .ok (.ireturn, 1) := by decide +kernel
theorem dX7_isPaired_0 : decode cX7_isPaired 0 = .ok (.aload_n 0, 1) := by decide +kernel
theorem dX7_isPaired_1 : decode cX7_isPaired 1 = .ok (.getfield 30, 3) := by decide +kernel
theorem dX7_isPaired_4 : decode cX7_isPaired 4 = .ok (.iload_n 1, 1) := by decide +kernel
theorem dX7_isPaired_5 : decode cX7_isPaired 5 = .ok (.iaload, 1) := by decide +kernel
theorem dX7_isPaired_6 : decode cX7_isPaired 6 = .ok (.iconst (-1), 1) := by decide +kernel
theorem dX7_isPaired_7 : decode cX7_isPaired 7 = .ok (.if_icmp .eq 22, 3) := by decide +kernel
theorem dX7_isPaired_10 : decode cX7_isPaired 10 = .ok (.aload_n 0, 1) := by decide +kernel
theorem dX7_isPaired_11 : decode cX7_isPaired 11 = .ok (.getfield 30, 3) := by decide +kernel
theorem dX7_isPaired_14 : decode cX7_isPaired 14 = .ok (.aload_n 0, 1) := by decide +kernel
theorem dX7_isPaired_15 : decode cX7_isPaired 15 = .ok (.getfield 30, 3) := by decide +kernel
theorem dX7_isPaired_18 : decode cX7_isPaired 18 = .ok (.iload_n 1, 1) := by decide +kernel
theorem dX7_isPaired_19 : decode cX7_isPaired 19 = .ok (.iaload, 1) := by decide +kernel
theorem dX7_isPaired_20 : decode cX7_isPaired 20 = .ok (.iaload, 1) := by decide +kernel
theorem dX7_isPaired_21 : decode cX7_isPaired 21 = .ok (.iload_n 1, 1) := by decide +kernel
theorem dX7_isPaired_22 : decode cX7_isPaired 22 = .ok (.if_icmp .ne 7, 3) := by decide +kernel
theorem dX7_isPaired_25 : decode cX7_isPaired 25 = .ok (.iconst 1, 1) := by decide +kernel
theorem dX7_isPaired_26 : decode cX7_isPaired 26 = .ok (.goto 4, 3) := by decide +kernel
theorem dX7_isPaired_29 : decode cX7_isPaired 29 = .ok (.iconst 0, 1) := by decide +kernel
theorem dX7_isPaired_30 : decode cX7_isPaired 30 = .ok (.ireturn, 1) := by decide +kernel
set_option maxRecDepth 20000 in
theorem ggX7_lineOf_X7_isPaired : GoodIn wsX7_lineOf wsX7_isPaired := goodIn_r _ [6, 1, 7, 8, 9, 10, 11, 12, 13, 14, 15, 16, 17, 18, 19, 20, 21, 22, 23, 24, 25, 26, 27, 28, 29, 30, 31, 32, 33, 34] (by decide +kernel) (by decide +kernel)
set_option maxRecDepth 20000 in
theorem gX7_lineOf_X7_isPaired : GoodIn wsX7_lineOf (wsV RX7 96 RX7 yX7_isPaired wsX7_isPaired) := goodIn_app (goodIn_of _ (by decide +kernel)) ggX7_lineOf_X7_isPaired
theorem dX7_lineOf_0 : decode cX7_lineOf 0 = .ok (.iload_n 1, 1) := by decide +kernel
theorem dX7_lineOf_1 : decode cX7_lineOf 1 = .ok (.istore_n 2, 1) := by decide +kernel
theorem dX7_lineOf_2 : decode cX7_lineOf 2 = .ok (.iconst 0, 1) := by decide +kernel
theorem dX7_lineOf_3 : decode cX7_lineOf 3 = .ok (.istore_n 3, 1) := by decide +kernel
theorem dX7_lineOf_4 : decode cX7_lineOf 4 = .ok (.iload_n 3, 1) := by decide +kernel
theorem dX7_lineOf_5 : decode cX7_lineOf 5 = .ok (.bipush 10, 2) := by decide +kernel
theorem dX7_lineOf_7 : decode cX7_lineOf 7 = .ok (.if_icmp .gt 33, 3) := by decide +kernel
theorem dX7_lineOf_10 : decode cX7_lineOf 10 = .ok (.iload_n 2, 1) := by decide +kernel
theorem dX7_lineOf_11 : decode cX7_lineOf 11 = .ok (.iconst (-1), 1) := by decide +kernel
theorem dX7_lineOf_12 : decode cX7_lineOf 12 = .ok (.if_icmp .ne 5, 3) := by decide +kernel
theorem dX7_lineOf_15 : decode cX7_lineOf 15 = .ok (.iconst (-1), 1) := by decide +kernel
theorem dX7_lineOf_16 : decode cX7_lineOf 16 = .ok (.ireturn, 1) := by decide +kernel
theorem dX7_lineOf_17 : decode cX7_lineOf 17 = .ok (.aload_n 0, 1) := by decide +kernel
theorem dX7_lineOf_18 : decode cX7_lineOf 18 = .ok (.iload_n 2, 1) := by decide +kernel
theorem dX7_lineOf_19 : decode cX7_lineOf 19 = .ok (.invokevirtual 96, 3) := by decide +kernel
theorem dX7_lineOf_22 : decode cX7_lineOf 22 = .ok (.ifCond .eq 5, 3) := by decide +kernel
theorem dX7_lineOf_25 : decode cX7_lineOf 25 = .ok (.iload_n 3, 1) := by decide +kernel
theorem dX7_lineOf_26 : decode cX7_lineOf 26 = .ok (.ireturn, 1) := by decide +kernel
theorem dX7_lineOf_27 : decode cX7_lineOf 27 = .ok (.aload_n 0, 1) := by decide +kernel
theorem dX7_lineOf_28 : decode cX7_lineOf 28 = .ok (.getfield 30, 3) := by decide +kernel
theorem dX7_lineOf_31 : decode cX7_lineOf 31 = .ok (.iload_n 2, 1) := by decide +kernel
theorem dX7_lineOf_32 : decode cX7_lineOf 32 = .ok (.iaload, 1) := by decide +kernel
theorem dX7_lineOf_33 : decode cX7_lineOf 33 = .ok (.istore_n 2, 1) := by decide +kernel
theorem dX7_lineOf_34 : decode cX7_lineOf 34 = .ok (.iinc 3 1, 3) := by decide +kernel
theorem dX7_lineOf_37 : decode cX7_lineOf 37 = .ok (.goto (-33), 3) := by decide +kernel
theorem dX7_lineOf_40 : decode cX7_lineOf 40 = .ok (.iconst (-1), 1) := by decide +kernel
theorem dX7_lineOf_41 : decode cX7_lineOf 41 = .ok (.ireturn, 1) := by decide +kernel
theorem dX7_followersOf_0 : decode cX7_followersOf 0 = .ok (.iconst 0, 1) := by decide +kernel
theorem dX7_followersOf_1 : decode cX7_followersOf 1 = .ok (.istore_n 2, 1) := by decide +kernel
theorem dX7_followersOf_2 : decode cX7_followersOf 2 = .ok (.iconst 0, 1) := by decide +kernel
theorem dX7_followersOf_3 : decode cX7_followersOf 3 = .ok (.istore_n 3, 1) := by decide +kernel
theorem dX7_followersOf_4 : decode cX7_followersOf 4 = .ok (.iload_n 3, 1) := by decide +kernel
theorem dX7_followersOf_5 : decode cX7_followersOf 5 = .ok (.aload_n 0, 1) := by decide +kernel
theorem dX7_followersOf_6 : decode cX7_followersOf 6 = .ok (.getfield 7, 3) := by decide +kernel
theorem dX7_followersOf_9 : decode cX7_followersOf 9 = .ok (.iconst 0, 1) := by decide +kernel
theorem dX7_followersOf_10 : decode cX7_followersOf 10 = .ok (.iaload, 1) := by decide +kernel
theorem dX7_followersOf_11 : decode cX7_followersOf 11 = .ok (.if_icmp .ge 84, 3) := by decide +kernel
theorem dX7_followersOf_14 : decode cX7_followersOf 14 = .ok (.iload_n 3, 1) := by decide +kernel
theorem dX7_followersOf_15 : decode cX7_followersOf 15 = .ok (.istore 4, 2) := by decide +kernel
theorem dX7_followersOf_17 : decode cX7_followersOf 17 = .ok (.iconst 0, 1) := by decide +kernel
theorem dX7_followersOf_18 : decode cX7_followersOf 18 = .ok (.istore 5, 2) := by decide +kernel
theorem dX7_followersOf_20 : decode cX7_followersOf 20 = .ok (.iconst 0, 1) := by decide +kernel
theorem dX7_followersOf_21 : decode cX7_followersOf 21 = .ok (.istore 6, 2) := by decide +kernel
theorem dX7_followersOf_23 : decode cX7_followersOf 23 = .ok (.iload 6, 2) := by decide +kernel
theorem dX7_followersOf_25 : decode cX7_followersOf 25 = .ok (.bipush 10, 2) := by decide +kernel
theorem dX7_followersOf_27 : decode cX7_followersOf 27 = .ok (.if_icmp .ge 42, 3) := by decide +kernel
theorem dX7_followersOf_30 : decode cX7_followersOf 30 = .ok (.iload 4, 2) := by decide +kernel
theorem dX7_followersOf_32 : decode cX7_followersOf 32 = .ok (.iconst (-1), 1) := by decide +kernel
theorem dX7_followersOf_33 : decode cX7_followersOf 33 = .ok (.if_icmp .eq 36, 3) := by decide +kernel
theorem dX7_followersOf_36 : decode cX7_followersOf 36 = .ok (.aload_n 0, 1) := by decide +kernel
theorem dX7_followersOf_37 : decode cX7_followersOf 37 = .ok (.getfield 30, 3) := by decide +kernel
theorem dX7_followersOf_40 : decode cX7_followersOf 40 = .ok (.iload 4, 2) := by decide +kernel
theorem dX7_followersOf_42 : decode cX7_followersOf 42 = .ok (.iaload, 1) := by decide +kernel
theorem dX7_followersOf_43 : decode cX7_followersOf 43 = .ok (.istore 4, 2) := by decide +kernel
theorem dX7_followersOf_45 : decode cX7_followersOf 45 = .ok (.iload 5, 2) := by decide +kernel
theorem dX7_followersOf_47 : decode cX7_followersOf 47 = .ok (.ifCond .ne 9, 3) := by decide +kernel
theorem dX7_followersOf_50 : decode cX7_followersOf 50 = .ok (.iload 4, 2) := by decide +kernel
theorem dX7_followersOf_52 : decode cX7_followersOf 52 = .ok (.iload_n 1, 1) := by decide +kernel
theorem dX7_followersOf_53 : decode cX7_followersOf 53 = .ok (.if_icmp .ne 7, 3) := by decide +kernel
theorem dX7_followersOf_56 : decode cX7_followersOf 56 = .ok (.iconst 1, 1) := by decide +kernel
theorem dX7_followersOf_57 : decode cX7_followersOf 57 = .ok (.goto 4, 3) := by decide +kernel
theorem dX7_followersOf_60 : decode cX7_followersOf 60 = .ok (.iconst 0, 1) := by decide +kernel
theorem dX7_followersOf_61 : decode cX7_followersOf 61 = .ok (.istore 5, 2) := by decide +kernel
theorem dX7_followersOf_63 : decode cX7_followersOf 63 = .ok (.iinc 6 1, 3) := by decide +kernel
theorem dX7_followersOf_66 : decode cX7_followersOf 66 = .ok (.goto (-43), 3) := by decide +kernel
theorem dX7_followersOf_69 : decode cX7_followersOf 69 = .ok (.iload_n 2, 1) := by decide +kernel
theorem dX7_followersOf_70 : decode cX7_followersOf 70 = .ok (.iload 5, 2) := by decide +kernel
theorem dX7_followersOf_72 : decode cX7_followersOf 72 = .ok (.ifCond .eq 14, 3) := by decide +kernel
theorem dX7_followersOf_75 : decode cX7_followersOf 75 = .ok (.iload_n 3, 1) := by decide +kernel
theorem dX7_followersOf_76 : decode cX7_followersOf 76 = .ok (.iload_n 1, 1) := by decide +kernel
theorem dX7_followersOf_77 : decode cX7_followersOf 77 = .ok (.if_icmp .eq 9, 3) := by decide +kernel
theorem dX7_followersOf_80 : decode cX7_followersOf 80 = .ok (.iconst 1, 1) := by decide +kernel
theorem dX7_followersOf_81 : decode cX7_followersOf 81 = .ok (.iload_n 3, 1) := by decide +kernel
theorem dX7_followersOf_82 : decode cX7_followersOf 82 = .ok (.ishl, 1) := by decide +kernel
theorem dX7_followersOf_83 : decode cX7_followersOf 83 = .ok (.goto 4, 3) := by decide +kernel
theorem dX7_followersOf_86 : decode cX7_followersOf 86 = .ok (.iconst 0, 1) := by decide +kernel
theorem dX7_followersOf_87 : decode cX7_followersOf 87 = .ok (.ior, 1) := by decide +kernel
theorem dX7_followersOf_88 : decode cX7_followersOf 88 = .ok (.istore_n 2, 1) := by decide +kernel
theorem dX7_followersOf_89 : decode cX7_followersOf 89 = .ok (.iinc 3 1, 3) := by decide +kernel
theorem dX7_followersOf_92 : decode cX7_followersOf 92 = .ok (.goto (-88), 3) := by decide +kernel
theorem dX7_followersOf_95 : decode cX7_followersOf 95 = .ok (.iload_n 2, 1) := by decide +kernel
theorem dX7_followersOf_96 : decode cX7_followersOf 96 = .ok (.ireturn, 1) := by decide +kernel
set_option maxRecDepth 20000 in
theorem ggX7_pairs_X7_isPaired : GoodIn wsX7_pairs wsX7_isPaired := goodIn_r _ [7, 2, 8, 9, 10, 11, 12, 13, 14, 15, 16, 17, 18, 19, 20, 21, 22, 23, 24, 25, 26, 27, 28, 29, 30, 31, 32, 33, 34, 35] (by decide +kernel) (by decide +kernel)
set_option maxRecDepth 20000 in
theorem gX7_pairs_X7_isPaired : GoodIn wsX7_pairs (wsV RX7 96 RX7 yX7_isPaired wsX7_isPaired) := goodIn_app (goodIn_of _ (by decide +kernel)) ggX7_pairs_X7_isPaired
theorem dX7_pairs_0 : decode cX7_pairs 0 = .ok (.iconst 0, 1) := by decide +kernel
theorem dX7_pairs_1 : decode cX7_pairs 1 = .ok (.istore_n 1, 1) := by decide +kernel
theorem dX7_pairs_2 : decode cX7_pairs 2 = .ok (.iconst 0, 1) := by decide +kernel
theorem dX7_pairs_3 : decode cX7_pairs 3 = .ok (.istore_n 2, 1) := by decide +kernel
theorem dX7_pairs_4 : decode cX7_pairs 4 = .ok (.iload_n 2, 1) := by decide +kernel
theorem dX7_pairs_5 : decode cX7_pairs 5 = .ok (.aload_n 0, 1) := by decide +kernel
theorem dX7_pairs_6 : decode cX7_pairs 6 = .ok (.getfield 7, 3) := by decide +kernel
theorem dX7_pairs_9 : decode cX7_pairs 9 = .ok (.iconst 0, 1) := by decide +kernel
theorem dX7_pairs_10 : decode cX7_pairs 10 = .ok (.iaload, 1) := by decide +kernel
theorem dX7_pairs_11 : decode cX7_pairs 11 = .ok (.if_icmp .ge 35, 3) := by decide +kernel
theorem dX7_pairs_14 : decode cX7_pairs 14 = .ok (.iload_n 1, 1) := by decide +kernel
theorem dX7_pairs_15 : decode cX7_pairs 15 = .ok (.aload_n 0, 1) := by decide +kernel
theorem dX7_pairs_16 : decode cX7_pairs 16 = .ok (.iload_n 2, 1) := by decide +kernel
theorem dX7_pairs_17 : decode cX7_pairs 17 = .ok (.invokevirtual 96, 3) := by decide +kernel
theorem dX7_pairs_20 : decode cX7_pairs 20 = .ok (.ifCond .eq 17, 3) := by decide +kernel
theorem dX7_pairs_23 : decode cX7_pairs 23 = .ok (.aload_n 0, 1) := by decide +kernel
theorem dX7_pairs_24 : decode cX7_pairs 24 = .ok (.getfield 30, 3) := by decide +kernel
theorem dX7_pairs_27 : decode cX7_pairs 27 = .ok (.iload_n 2, 1) := by decide +kernel
theorem dX7_pairs_28 : decode cX7_pairs 28 = .ok (.iaload, 1) := by decide +kernel
theorem dX7_pairs_29 : decode cX7_pairs 29 = .ok (.iload_n 2, 1) := by decide +kernel
theorem dX7_pairs_30 : decode cX7_pairs 30 = .ok (.if_icmp .le 7, 3) := by decide +kernel
theorem dX7_pairs_33 : decode cX7_pairs 33 = .ok (.iconst 1, 1) := by decide +kernel
theorem dX7_pairs_34 : decode cX7_pairs 34 = .ok (.goto 4, 3) := by decide +kernel
theorem dX7_pairs_37 : decode cX7_pairs 37 = .ok (.iconst 0, 1) := by decide +kernel
theorem dX7_pairs_38 : decode cX7_pairs 38 = .ok (.iadd, 1) := by decide +kernel
theorem dX7_pairs_39 : decode cX7_pairs 39 = .ok (.istore_n 1, 1) := by decide +kernel
theorem dX7_pairs_40 : decode cX7_pairs 40 = .ok (.iinc 2 1, 3) := by decide +kernel
theorem dX7_pairs_43 : decode cX7_pairs 43 = .ok (.goto (-39), 3) := by decide +kernel
theorem dX7_pairs_46 : decode cX7_pairs 46 = .ok (.iload_n 1, 1) := by decide +kernel
theorem dX7_pairs_47 : decode cX7_pairs 47 = .ok (.ireturn, 1) := by decide +kernel
theorem dX7_comes_0 : decode cX7_comes 0 = .ok (.aload_n 0, 1) := by decide +kernel
theorem dX7_comes_1 : decode cX7_comes 1 = .ok (.getfield 7, 3) := by decide +kernel
theorem dX7_comes_4 : decode cX7_comes 4 = .ok (.iconst 0, 1) := by decide +kernel
theorem dX7_comes_5 : decode cX7_comes 5 = .ok (.iaload, 1) := by decide +kernel
theorem dX7_comes_6 : decode cX7_comes 6 = .ok (.istore_n 3, 1) := by decide +kernel
theorem dX7_comes_7 : decode cX7_comes 7 = .ok (.aload_n 0, 1) := by decide +kernel
theorem dX7_comes_8 : decode cX7_comes 8 = .ok (.getfield 7, 3) := by decide +kernel
theorem dX7_comes_11 : decode cX7_comes 11 = .ok (.bipush 10, 2) := by decide +kernel
theorem dX7_comes_13 : decode cX7_comes 13 = .ok (.iload_n 3, 1) := by decide +kernel
theorem dX7_comes_14 : decode cX7_comes 14 = .ok (.iadd, 1) := by decide +kernel
theorem dX7_comes_15 : decode cX7_comes 15 = .ok (.iload_n 1, 1) := by decide +kernel
theorem dX7_comes_16 : decode cX7_comes 16 = .ok (.iastore, 1) := by decide +kernel
theorem dX7_comes_17 : decode cX7_comes 17 = .ok (.aload_n 0, 1) := by decide +kernel
theorem dX7_comes_18 : decode cX7_comes 18 = .ok (.getfield 7, 3) := by decide +kernel
theorem dX7_comes_21 : decode cX7_comes 21 = .ok (.bipush 20, 2) := by decide +kernel
theorem dX7_comes_23 : decode cX7_comes 23 = .ok (.iload_n 3, 1) := by decide +kernel
theorem dX7_comes_24 : decode cX7_comes 24 = .ok (.iadd, 1) := by decide +kernel
theorem dX7_comes_25 : decode cX7_comes 25 = .ok (.iload_n 2, 1) := by decide +kernel
theorem dX7_comes_26 : decode cX7_comes 26 = .ok (.iastore, 1) := by decide +kernel
theorem dX7_comes_27 : decode cX7_comes 27 = .ok (.aload_n 0, 1) := by decide +kernel
theorem dX7_comes_28 : decode cX7_comes 28 = .ok (.getfield 7, 3) := by decide +kernel
theorem dX7_comes_31 : decode cX7_comes 31 = .ok (.bipush 6, 2) := by decide +kernel
theorem dX7_comes_33 : decode cX7_comes 33 = .ok (.dup2, 1) := by decide +kernel
theorem dX7_comes_34 : decode cX7_comes 34 = .ok (.iaload, 1) := by decide +kernel
theorem dX7_comes_35 : decode cX7_comes 35 = .ok (.iconst 1, 1) := by decide +kernel
theorem dX7_comes_36 : decode cX7_comes 36 = .ok (.iload_n 3, 1) := by decide +kernel
theorem dX7_comes_37 : decode cX7_comes 37 = .ok (.ishl, 1) := by decide +kernel
theorem dX7_comes_38 : decode cX7_comes 38 = .ok (.iconst (-1), 1) := by decide +kernel
theorem dX7_comes_39 : decode cX7_comes 39 = .ok (.ixor, 1) := by decide +kernel
theorem dX7_comes_40 : decode cX7_comes 40 = .ok (.iand, 1) := by decide +kernel
theorem dX7_comes_41 : decode cX7_comes 41 = .ok (.iastore, 1) := by decide +kernel
theorem dX7_comes_42 : decode cX7_comes 42 = .ok (.aload_n 0, 1) := by decide +kernel
theorem dX7_comes_43 : decode cX7_comes 43 = .ok (.getfield 7, 3) := by decide +kernel
theorem dX7_comes_46 : decode cX7_comes 46 = .ok (.iconst 0, 1) := by decide +kernel
theorem dX7_comes_47 : decode cX7_comes 47 = .ok (.dup2, 1) := by decide +kernel
theorem dX7_comes_48 : decode cX7_comes 48 = .ok (.iaload, 1) := by decide +kernel
theorem dX7_comes_49 : decode cX7_comes 49 = .ok (.iconst 1, 1) := by decide +kernel
theorem dX7_comes_50 : decode cX7_comes 50 = .ok (.iadd, 1) := by decide +kernel
theorem dX7_comes_51 : decode cX7_comes 51 = .ok (.iastore, 1) := by decide +kernel
theorem dX7_comes_52 : decode cX7_comes 52 = .ok (.iload_n 3, 1) := by decide +kernel
theorem dX7_comes_53 : decode cX7_comes 53 = .ok (.ireturn, 1) := by decide +kernel
set_option maxRecDepth 20000 in
theorem ggX7_tent_X7_in : GoodIn wsX7_tent wsX7_in := goodIn_r _ [6] (by decide +kernel) (by decide +kernel)
set_option maxRecDepth 20000 in
theorem gX7_tent_X7_in : GoodIn wsX7_tent (va_wsS RX7 58 yX7_in wsX7_in) := goodIn_app (goodIn_of _ (by decide +kernel)) ggX7_tent_X7_in
set_option maxRecDepth 20000 in
theorem ggX7_tent_X7_isYard : GoodIn wsX7_tent wsX7_isYard := goodIn_r _ [9, 10, 3, 4, 5, 6] (by decide +kernel) (by decide +kernel)
set_option maxRecDepth 20000 in
theorem gX7_tent_X7_isYard : GoodIn wsX7_tent (va_wsS RX7 102 yX7_isYard wsX7_isYard) := goodIn_app (goodIn_of _ (by decide +kernel)) ggX7_tent_X7_isYard
set_option maxRecDepth 20000 in
theorem ggX7_tent_X7_finds : GoodIn wsX7_tent wsX7_finds := goodIn_r _ [14, 15, 16, 29, 30, 31, 32, 33, 34, 35, 36, 37, 38, 39, 40, 41, 42, 43, 44, 45, 46, 47, 48, 49, 50, 51, 52, 53, 54, 55, 56] (by decide +kernel) (by decide +kernel)
set_option maxRecDepth 20000 in
theorem gX7_tent_X7_finds : GoodIn wsX7_tent (wsV RX7 106 RX7 yX7_finds wsX7_finds) := goodIn_app (goodIn_of _ (by decide +kernel)) ggX7_tent_X7_finds
set_option maxRecDepth 20000 in
theorem ggX7_tent_X7_whoIs : GoodIn wsX7_tent wsX7_whoIs := goodIn_r _ [20, 2, 21, 22, 23, 5, 24, 29, 30, 31, 32, 33, 34, 35, 36, 37, 38, 39, 40, 41, 42, 43, 44, 45, 46, 47, 48, 49, 50, 51, 52, 53, 54, 55, 56] (by decide +kernel) (by decide +kernel)
set_option maxRecDepth 20000 in
theorem gX7_tent_X7_whoIs : GoodIn wsX7_tent (wsV RX7 109 RX7 yX7_whoIs wsX7_whoIs) := goodIn_app (goodIn_of _ (by decide +kernel)) ggX7_tent_X7_whoIs
set_option maxRecDepth 20000 in
theorem ggX7_tent_X7_comes : GoodIn wsX7_tent wsX7_comes := goodIn_r _ [28, 2, 29, 30, 31, 32, 33, 34, 35, 36, 37, 38, 39, 40, 41, 42, 43, 44, 45, 46, 47, 48, 49, 50, 51, 52, 53, 54, 55, 56] (by decide +kernel) (by decide +kernel)
set_option maxRecDepth 20000 in
theorem gX7_tent_X7_comes : GoodIn wsX7_tent (wsV RX7 112 RX7 yX7_comes wsX7_comes) := goodIn_app (goodIn_of _ (by decide +kernel)) ggX7_tent_X7_comes
theorem dX7_tent_0 : decode cX7_tent 0 = .ok (.iload_n 1, 1) := by decide +kernel
theorem dX7_tent_1 : decode cX7_tent 1 = .ok (.i2l, 1) := by decide +kernel
theorem dX7_tent_2 : decode cX7_tent 2 = .ok (.lconst 0, 1) := by decide +kernel
theorem dX7_tent_3 : decode cX7_tent 3 = .ok (.ldc2_w 100, 3) := by decide +kernel
theorem dX7_tent_6 : decode cX7_tent 6 = .ok (.invokestatic 58, 3) := by decide +kernel
theorem dX7_tent_9 : decode cX7_tent 9 = .ok (.ifCond .eq 11, 3) := by decide +kernel
theorem dX7_tent_12 : decode cX7_tent 12 = .ok (.iload_n 2, 1) := by decide +kernel
theorem dX7_tent_13 : decode cX7_tent 13 = .ok (.iload_n 3, 1) := by decide +kernel
theorem dX7_tent_14 : decode cX7_tent 14 = .ok (.invokestatic 102, 3) := by decide +kernel
theorem dX7_tent_17 : decode cX7_tent 17 = .ok (.ifCond .ne 9, 3) := by decide +kernel
theorem dX7_tent_20 : decode cX7_tent 20 = .ok (.aload_n 0, 1) := by decide +kernel
theorem dX7_tent_21 : decode cX7_tent 21 = .ok (.iconst 0, 1) := by decide +kernel
theorem dX7_tent_22 : decode cX7_tent 22 = .ok (.invokevirtual 106, 3) := by decide +kernel
theorem dX7_tent_25 : decode cX7_tent 25 = .ok (.ireturn, 1) := by decide +kernel
theorem dX7_tent_26 : decode cX7_tent 26 = .ok (.aload_n 0, 1) := by decide +kernel
theorem dX7_tent_27 : decode cX7_tent 27 = .ok (.bipush 12, 2) := by decide +kernel
theorem dX7_tent_29 : decode cX7_tent 29 = .ok (.iload_n 3, 1) := by decide +kernel
theorem dX7_tent_30 : decode cX7_tent 30 = .ok (.imul, 1) := by decide +kernel
theorem dX7_tent_31 : decode cX7_tent 31 = .ok (.iload_n 2, 1) := by decide +kernel
theorem dX7_tent_32 : decode cX7_tent 32 = .ok (.iadd, 1) := by decide +kernel
theorem dX7_tent_33 : decode cX7_tent 33 = .ok (.invokevirtual 109, 3) := by decide +kernel
theorem dX7_tent_36 : decode cX7_tent 36 = .ok (.iconst (-1), 1) := by decide +kernel
theorem dX7_tent_37 : decode cX7_tent 37 = .ok (.if_icmp .eq 9, 3) := by decide +kernel
theorem dX7_tent_40 : decode cX7_tent 40 = .ok (.aload_n 0, 1) := by decide +kernel
theorem dX7_tent_41 : decode cX7_tent 41 = .ok (.iconst 4, 1) := by decide +kernel
theorem dX7_tent_42 : decode cX7_tent 42 = .ok (.invokevirtual 106, 3) := by decide +kernel
theorem dX7_tent_45 : decode cX7_tent 45 = .ok (.ireturn, 1) := by decide +kernel
theorem dX7_tent_46 : decode cX7_tent 46 = .ok (.aload_n 0, 1) := by decide +kernel
theorem dX7_tent_47 : decode cX7_tent 47 = .ok (.getfield 7, 3) := by decide +kernel
theorem dX7_tent_50 : decode cX7_tent 50 = .ok (.iconst 0, 1) := by decide +kernel
theorem dX7_tent_51 : decode cX7_tent 51 = .ok (.iaload, 1) := by decide +kernel
theorem dX7_tent_52 : decode cX7_tent 52 = .ok (.bipush 10, 2) := by decide +kernel
theorem dX7_tent_54 : decode cX7_tent 54 = .ok (.if_icmp .ne 11, 3) := by decide +kernel
theorem dX7_tent_57 : decode cX7_tent 57 = .ok (.aload_n 0, 1) := by decide +kernel
theorem dX7_tent_58 : decode cX7_tent 58 = .ok (.iconst 1, 1) := by decide +kernel
theorem dX7_tent_59 : decode cX7_tent 59 = .ok (.invokevirtual 106, 3) := by decide +kernel
theorem dX7_tent_62 : decode cX7_tent 62 = .ok (.goto 14, 3) := by decide +kernel
theorem dX7_tent_65 : decode cX7_tent 65 = .ok (.aload_n 0, 1) := by decide +kernel
theorem dX7_tent_66 : decode cX7_tent 66 = .ok (.iload_n 1, 1) := by decide +kernel
theorem dX7_tent_67 : decode cX7_tent 67 = .ok (.bipush 12, 2) := by decide +kernel
theorem dX7_tent_69 : decode cX7_tent 69 = .ok (.iload_n 3, 1) := by decide +kernel
theorem dX7_tent_70 : decode cX7_tent 70 = .ok (.imul, 1) := by decide +kernel
theorem dX7_tent_71 : decode cX7_tent 71 = .ok (.iload_n 2, 1) := by decide +kernel
theorem dX7_tent_72 : decode cX7_tent 72 = .ok (.iadd, 1) := by decide +kernel
theorem dX7_tent_73 : decode cX7_tent 73 = .ok (.invokevirtual 112, 3) := by decide +kernel
theorem dX7_tent_76 : decode cX7_tent 76 = .ok (.ireturn, 1) := by decide +kernel
set_option maxRecDepth 20000 in
theorem ggX7_of_X7_isTent : GoodIn wsX7_of wsX7_isTent := goodIn_r _ [8, 3, 9, 10, 7, 11, 67, 68, 69, 70, 71, 72, 73, 74, 75, 76, 77, 78, 79, 80, 81, 82, 83, 84, 85, 86, 87, 88, 89, 90, 91, 92, 93, 94] (by decide +kernel) (by decide +kernel)
set_option maxRecDepth 20000 in
theorem gX7_of_X7_isTent : GoodIn wsX7_of (wsV RX7 115 RX7 yX7_isTent wsX7_isTent) := goodIn_app (goodIn_of _ (by decide +kernel)) ggX7_of_X7_isTent
set_option maxRecDepth 20000 in
theorem ggX7_of_X7_in : GoodIn wsX7_of wsX7_in := goodIn_r _ [11] (by decide +kernel) (by decide +kernel)
set_option maxRecDepth 20000 in
theorem gX7_of_X7_in : GoodIn wsX7_of (va_wsS RX7 58 yX7_in wsX7_in) := goodIn_app (goodIn_of _ (by decide +kernel)) ggX7_of_X7_in
set_option maxRecDepth 20000 in
theorem ggX7_of_X7_finds : GoodIn wsX7_of wsX7_finds := goodIn_r _ [15, 16, 17, 67, 68, 69, 70, 71, 72, 73, 74, 75, 76, 77, 78, 79, 80, 81, 82, 83, 84, 85, 86, 87, 88, 89, 90, 91, 92, 93, 94] (by decide +kernel) (by decide +kernel)
set_option maxRecDepth 20000 in
theorem gX7_of_X7_finds : GoodIn wsX7_of (wsV RX7 106 RX7 yX7_finds wsX7_finds) := goodIn_app (goodIn_of _ (by decide +kernel)) ggX7_of_X7_finds
set_option maxRecDepth 20000 in
theorem ggX7_of_X7_listen : GoodIn wsX7_of wsX7_listen := goodIn_r _ [21, 3, 22, 2, 23, 24, 25, 7, 26, 27, 28, 29, 30, 31, 32, 33, 34, 35, 36, 37, 38, 39, 40, 41, 42, 43, 44, 45, 46, 67, 68, 69, 70, 71, 72, 73, 74, 75, 76, 77, 78, 79, 80, 81, 82, 83, 84, 85, 86, 87, 88, 89, 90, 91, 92, 93, 94] (by decide +kernel) (by decide +kernel)
set_option maxRecDepth 20000 in
theorem gX7_of_X7_listen : GoodIn wsX7_of (wsV RX7 120 RX7 yX7_listen wsX7_listen) := goodIn_app (goodIn_of _ (by decide +kernel)) ggX7_of_X7_listen
set_option maxRecDepth 20000 in
theorem ggX7_of_X7_kind : GoodIn wsX7_of wsX7_kind := goodIn_r _ [26, 3, 67, 68, 69, 70, 71, 72, 73, 74, 75, 76, 77, 78, 79, 80, 81, 82, 83, 84, 85, 86, 87, 88, 89, 90, 91, 92, 93, 94] (by decide +kernel) (by decide +kernel)
set_option maxRecDepth 20000 in
theorem gX7_of_X7_kind : GoodIn wsX7_of (wsV RX7 75 RX7 yX7_kind wsX7_kind) := goodIn_app (goodIn_of _ (by decide +kernel)) ggX7_of_X7_kind
set_option maxRecDepth 20000 in
theorem ggX7_of_X7_yard : GoodIn wsX7_of wsX7_yard := goodIn_r _ [35, 3, 67, 68, 69, 70, 71, 72, 73, 74, 75, 76, 77, 78, 79, 80, 81, 82, 83, 84, 85, 86, 87, 88, 89, 90, 91, 92, 93, 94] (by decide +kernel) (by decide +kernel)
set_option maxRecDepth 20000 in
theorem gX7_of_X7_yard : GoodIn wsX7_of (wsV RX7 64 RX7 yX7_yard wsX7_yard) := goodIn_app (goodIn_of _ (by decide +kernel)) ggX7_of_X7_yard
set_option maxRecDepth 20000 in
theorem ggX7_of_X7_saysNow : GoodIn wsX7_of wsX7_saysNow := goodIn_r _ [50, 3, 67, 68, 69, 70, 71, 72, 73, 74, 75, 76, 77, 78, 79, 80, 81, 82, 83, 84, 85, 86, 87, 88, 89, 90, 91, 92, 93, 94] (by decide +kernel) (by decide +kernel)
set_option maxRecDepth 20000 in
theorem gX7_of_X7_saysNow : GoodIn wsX7_of (wsV RX7 123 RX7 yX7_saysNow wsX7_saysNow) := goodIn_app (goodIn_of _ (by decide +kernel)) ggX7_of_X7_saysNow
set_option maxRecDepth 20000 in
theorem ggX7_of_X7_willSay : GoodIn wsX7_of wsX7_willSay := goodIn_r _ [54, 2, 22, 23, 24, 25, 7, 26, 3, 67, 68, 69, 70, 71, 72, 73, 74, 75, 76, 77, 78, 79, 80, 81, 82, 83, 84, 85, 86, 87, 88, 89, 90, 91, 92, 93, 94] (by decide +kernel) (by decide +kernel)
set_option maxRecDepth 20000 in
theorem gX7_of_X7_willSay : GoodIn wsX7_of (wsV RX7 84 RX7 yX7_willSay wsX7_willSay) := goodIn_app (goodIn_of _ (by decide +kernel)) ggX7_of_X7_willSay
set_option maxRecDepth 20000 in
theorem ggX7_of_X7_lineOf : GoodIn wsX7_of wsX7_lineOf := goodIn_r _ [58, 2, 59, 60, 61, 7, 62, 67, 68, 69, 70, 71, 72, 73, 74, 75, 76, 77, 78, 79, 80, 81, 82, 83, 84, 85, 86, 87, 88, 89, 90, 91, 92, 93, 94] (by decide +kernel) (by decide +kernel)
set_option maxRecDepth 20000 in
theorem gX7_of_X7_lineOf : GoodIn wsX7_of (wsV RX7 126 RX7 yX7_lineOf wsX7_lineOf) := goodIn_app (goodIn_of _ (by decide +kernel)) ggX7_of_X7_lineOf
set_option maxRecDepth 20000 in
theorem ggX7_of_X7_followersOf : GoodIn wsX7_of wsX7_followersOf := goodIn_r _ [66, 3, 2, 67, 68, 69, 70, 71, 72, 73, 74, 75, 76, 77, 78, 79, 80, 81, 82, 83, 84, 85, 86, 87, 88, 89, 90, 91, 92, 93, 94] (by decide +kernel) (by decide +kernel)
set_option maxRecDepth 20000 in
theorem gX7_of_X7_followersOf : GoodIn wsX7_of (wsV RX7 129 RX7 yX7_followersOf wsX7_followersOf) := goodIn_app (goodIn_of _ (by decide +kernel)) ggX7_of_X7_followersOf
theorem dX7_of_0 : decode cX7_of 0 = .ok (.aload_n 0, 1) := by decide +kernel
theorem dX7_of_1 : decode cX7_of 1 = .ok (.iload_n 1, 1) := by decide +kernel
theorem dX7_of_2 : decode cX7_of 2 = .ok (.invokevirtual 115, 3) := by decide +kernel
theorem dX7_of_5 : decode cX7_of 5 = .ok (.ifCond .eq 15, 3) := by decide +kernel
theorem dX7_of_8 : decode cX7_of 8 = .ok (.iload_n 2, 1) := by decide +kernel
theorem dX7_of_9 : decode cX7_of 9 = .ok (.i2l, 1) := by decide +kernel
theorem dX7_of_10 : decode cX7_of 10 = .ok (.lconst 0, 1) := by decide +kernel
theorem dX7_of_11 : decode cX7_of 11 = .ok (.ldc2_w 118, 3) := by decide +kernel
theorem dX7_of_14 : decode cX7_of 14 = .ok (.invokestatic 58, 3) := by decide +kernel
theorem dX7_of_17 : decode cX7_of 17 = .ok (.ifCond .ne 9, 3) := by decide +kernel
theorem dX7_of_20 : decode cX7_of 20 = .ok (.aload_n 0, 1) := by decide +kernel
theorem dX7_of_21 : decode cX7_of 21 = .ok (.iconst 0, 1) := by decide +kernel
theorem dX7_of_22 : decode cX7_of 22 = .ok (.invokevirtual 106, 3) := by decide +kernel
theorem dX7_of_25 : decode cX7_of 25 = .ok (.ireturn, 1) := by decide +kernel
theorem dX7_of_26 : decode cX7_of 26 = .ok (.aload_n 0, 1) := by decide +kernel
theorem dX7_of_27 : decode cX7_of 27 = .ok (.invokevirtual 120, 3) := by decide +kernel
theorem dX7_of_30 : decode cX7_of 30 = .ok (.iload_n 2, 1) := by decide +kernel
theorem dX7_of_31 : decode cX7_of 31 = .ok (.tableswitch 97 0 6 #[41, 47, 56, 65, 71, 78, 91], 41) := by decide +kernel
theorem dX7_of_72 : decode cX7_of 72 = .ok (.aload_n 0, 1) := by decide +kernel
theorem dX7_of_73 : decode cX7_of 73 = .ok (.iload_n 1, 1) := by decide +kernel
theorem dX7_of_74 : decode cX7_of 74 = .ok (.invokevirtual 75, 3) := by decide +kernel
theorem dX7_of_77 : decode cX7_of 77 = .ok (.ireturn, 1) := by decide +kernel
theorem dX7_of_78 : decode cX7_of 78 = .ok (.aload_n 0, 1) := by decide +kernel
theorem dX7_of_79 : decode cX7_of 79 = .ok (.iload_n 1, 1) := by decide +kernel
theorem dX7_of_80 : decode cX7_of 80 = .ok (.invokevirtual 64, 3) := by decide +kernel
theorem dX7_of_83 : decode cX7_of 83 = .ok (.bipush 12, 2) := by decide +kernel
theorem dX7_of_85 : decode cX7_of 85 = .ok (.irem, 1) := by decide +kernel
theorem dX7_of_86 : decode cX7_of 86 = .ok (.ireturn, 1) := by decide +kernel
theorem dX7_of_87 : decode cX7_of 87 = .ok (.aload_n 0, 1) := by decide +kernel
theorem dX7_of_88 : decode cX7_of 88 = .ok (.iload_n 1, 1) := by decide +kernel
theorem dX7_of_89 : decode cX7_of 89 = .ok (.invokevirtual 64, 3) := by decide +kernel
theorem dX7_of_92 : decode cX7_of 92 = .ok (.bipush 12, 2) := by decide +kernel
theorem dX7_of_94 : decode cX7_of 94 = .ok (.idiv, 1) := by decide +kernel
theorem dX7_of_95 : decode cX7_of 95 = .ok (.ireturn, 1) := by decide +kernel
theorem dX7_of_96 : decode cX7_of 96 = .ok (.aload_n 0, 1) := by decide +kernel
theorem dX7_of_97 : decode cX7_of 97 = .ok (.iload_n 1, 1) := by decide +kernel
theorem dX7_of_98 : decode cX7_of 98 = .ok (.invokevirtual 123, 3) := by decide +kernel
theorem dX7_of_101 : decode cX7_of 101 = .ok (.ireturn, 1) := by decide +kernel
theorem dX7_of_102 : decode cX7_of 102 = .ok (.aload_n 0, 1) := by decide +kernel
theorem dX7_of_103 : decode cX7_of 103 = .ok (.getfield 30, 3) := by decide +kernel
theorem dX7_of_106 : decode cX7_of 106 = .ok (.iload_n 1, 1) := by decide +kernel
theorem dX7_of_107 : decode cX7_of 107 = .ok (.iaload, 1) := by decide +kernel
theorem dX7_of_108 : decode cX7_of 108 = .ok (.ireturn, 1) := by decide +kernel
theorem dX7_of_109 : decode cX7_of 109 = .ok (.aload_n 0, 1) := by decide +kernel
theorem dX7_of_110 : decode cX7_of 110 = .ok (.iload_n 1, 1) := by decide +kernel
theorem dX7_of_111 : decode cX7_of 111 = .ok (.aload_n 0, 1) := by decide +kernel
theorem dX7_of_112 : decode cX7_of 112 = .ok (.getfield 7, 3) := by decide +kernel
theorem dX7_of_115 : decode cX7_of 115 = .ok (.bipush 6, 2) := by decide +kernel
theorem dX7_of_117 : decode cX7_of 117 = .ok (.iaload, 1) := by decide +kernel
theorem dX7_of_118 : decode cX7_of 118 = .ok (.invokevirtual 84, 3) := by decide +kernel
theorem dX7_of_121 : decode cX7_of 121 = .ok (.ireturn, 1) := by decide +kernel
theorem dX7_of_122 : decode cX7_of 122 = .ok (.aload_n 0, 1) := by decide +kernel
theorem dX7_of_123 : decode cX7_of 123 = .ok (.iload_n 1, 1) := by decide +kernel
theorem dX7_of_124 : decode cX7_of 124 = .ok (.invokevirtual 126, 3) := by decide +kernel
theorem dX7_of_127 : decode cX7_of 127 = .ok (.ireturn, 1) := by decide +kernel
theorem dX7_of_128 : decode cX7_of 128 = .ok (.aload_n 0, 1) := by decide +kernel
theorem dX7_of_129 : decode cX7_of 129 = .ok (.iload_n 1, 1) := by decide +kernel
theorem dX7_of_130 : decode cX7_of 130 = .ok (.invokevirtual 129, 3) := by decide +kernel
theorem dX7_of_133 : decode cX7_of 133 = .ok (.ireturn, 1) := by decide +kernel
theorem dX7_sayOf_0 : decode cX7_sayOf 0 = .ok (.aload_n 0, 1) := by decide +kernel
theorem dX7_sayOf_1 : decode cX7_sayOf 1 = .ok (.getfield 7, 3) := by decide +kernel
theorem dX7_sayOf_4 : decode cX7_sayOf 4 = .ok (.bipush 6, 2) := by decide +kernel
theorem dX7_sayOf_6 : decode cX7_sayOf 6 = .ok (.iload_n 2, 1) := by decide +kernel
theorem dX7_sayOf_7 : decode cX7_sayOf 7 = .ok (.iconst 1, 1) := by decide +kernel
theorem dX7_sayOf_8 : decode cX7_sayOf 8 = .ok (.if_icmp .ne 17, 3) := by decide +kernel
theorem dX7_sayOf_11 : decode cX7_sayOf 11 = .ok (.aload_n 0, 1) := by decide +kernel
theorem dX7_sayOf_12 : decode cX7_sayOf 12 = .ok (.getfield 7, 3) := by decide +kernel
theorem dX7_sayOf_15 : decode cX7_sayOf 15 = .ok (.bipush 6, 2) := by decide +kernel
theorem dX7_sayOf_17 : decode cX7_sayOf 17 = .ok (.iaload, 1) := by decide +kernel
theorem dX7_sayOf_18 : decode cX7_sayOf 18 = .ok (.iconst 1, 1) := by decide +kernel
theorem dX7_sayOf_19 : decode cX7_sayOf 19 = .ok (.iload_n 1, 1) := by decide +kernel
theorem dX7_sayOf_20 : decode cX7_sayOf 20 = .ok (.ishl, 1) := by decide +kernel
theorem dX7_sayOf_21 : decode cX7_sayOf 21 = .ok (.ior, 1) := by decide +kernel
theorem dX7_sayOf_22 : decode cX7_sayOf 22 = .ok (.goto 16, 3) := by decide +kernel
theorem dX7_sayOf_25 : decode cX7_sayOf 25 = .ok (.aload_n 0, 1) := by decide +kernel
theorem dX7_sayOf_26 : decode cX7_sayOf 26 = .ok (.getfield 7, 3) := by decide +kernel
theorem dX7_sayOf_29 : decode cX7_sayOf 29 = .ok (.bipush 6, 2) := by decide +kernel
theorem dX7_sayOf_31 : decode cX7_sayOf 31 = .ok (.iaload, 1) := by decide +kernel
theorem dX7_sayOf_32 : decode cX7_sayOf 32 = .ok (.iconst 1, 1) := by decide +kernel
theorem dX7_sayOf_33 : decode cX7_sayOf 33 = .ok (.iload_n 1, 1) := by decide +kernel
theorem dX7_sayOf_34 : decode cX7_sayOf 34 = .ok (.ishl, 1) := by decide +kernel
theorem dX7_sayOf_35 : decode cX7_sayOf 35 = .ok (.iconst (-1), 1) := by decide +kernel
theorem dX7_sayOf_36 : decode cX7_sayOf 36 = .ok (.ixor, 1) := by decide +kernel
theorem dX7_sayOf_37 : decode cX7_sayOf 37 = .ok (.iand, 1) := by decide +kernel
theorem dX7_sayOf_38 : decode cX7_sayOf 38 = .ok (.iastore, 1) := by decide +kernel
theorem dX7_sayOf_39 : decode cX7_sayOf 39 = .ok (.return_, 1) := by decide +kernel
set_option maxRecDepth 20000 in
theorem ggX7_change_X7_isTent : GoodIn wsX7_change wsX7_isTent := goodIn_r _ [7, 2, 8, 9, 6, 10, 29, 30, 31, 32, 33, 34, 35, 36, 37, 38, 39, 40, 41, 42, 43, 44, 45, 46, 47, 48, 49, 50, 51, 52, 53, 54, 55, 56] (by decide +kernel) (by decide +kernel)
set_option maxRecDepth 20000 in
theorem gX7_change_X7_isTent : GoodIn wsX7_change (wsV RX7 115 RX7 yX7_isTent wsX7_isTent) := goodIn_app (goodIn_of _ (by decide +kernel)) ggX7_change_X7_isTent
set_option maxRecDepth 20000 in
theorem ggX7_change_X7_in : GoodIn wsX7_change wsX7_in := goodIn_r _ [10] (by decide +kernel) (by decide +kernel)
set_option maxRecDepth 20000 in
theorem gX7_change_X7_in : GoodIn wsX7_change (va_wsS RX7 58 yX7_in wsX7_in) := goodIn_app (goodIn_of _ (by decide +kernel)) ggX7_change_X7_in
set_option maxRecDepth 20000 in
theorem ggX7_change_X7_finds : GoodIn wsX7_change wsX7_finds := goodIn_r _ [14, 15, 16, 29, 30, 31, 32, 33, 34, 35, 36, 37, 38, 39, 40, 41, 42, 43, 44, 45, 46, 47, 48, 49, 50, 51, 52, 53, 54, 55, 56] (by decide +kernel) (by decide +kernel)
set_option maxRecDepth 20000 in
theorem gX7_change_X7_finds : GoodIn wsX7_change (wsV RX7 106 RX7 yX7_finds wsX7_finds) := goodIn_app (goodIn_of _ (by decide +kernel)) ggX7_change_X7_finds
set_option maxRecDepth 20000 in
theorem ggX7_change_X7_kind : GoodIn wsX7_change wsX7_kind := goodIn_r _ [20, 2, 29, 30, 31, 32, 33, 34, 35, 36, 37, 38, 39, 40, 41, 42, 43, 44, 45, 46, 47, 48, 49, 50, 51, 52, 53, 54, 55, 56] (by decide +kernel) (by decide +kernel)
set_option maxRecDepth 20000 in
theorem gX7_change_X7_kind : GoodIn wsX7_change (wsV RX7 75 RX7 yX7_kind wsX7_kind) := goodIn_app (goodIn_of _ (by decide +kernel)) ggX7_change_X7_kind
set_option maxRecDepth 20000 in
theorem ggX7_change_X7_saysNow : GoodIn wsX7_change wsX7_saysNow := goodIn_r _ [24, 2, 29, 30, 31, 32, 33, 34, 35, 36, 37, 38, 39, 40, 41, 42, 43, 44, 45, 46, 47, 48, 49, 50, 51, 52, 53, 54, 55, 56] (by decide +kernel) (by decide +kernel)
set_option maxRecDepth 20000 in
theorem gX7_change_X7_saysNow : GoodIn wsX7_change (wsV RX7 123 RX7 yX7_saysNow wsX7_saysNow) := goodIn_app (goodIn_of _ (by decide +kernel)) ggX7_change_X7_saysNow
set_option maxRecDepth 20000 in
theorem ggX7_change_X7_sayOf : GoodIn wsX7_change wsX7_sayOf := goodIn_r _ [28, 2, 29, 30, 31, 32, 33, 34, 35, 36, 37, 38, 39, 40, 41, 42, 43, 44, 45, 46, 47, 48, 49, 50, 51, 52, 53, 54, 55, 56] (by decide +kernel) (by decide +kernel)
set_option maxRecDepth 20000 in
theorem gX7_change_X7_sayOf : GoodIn wsX7_change (wsV RX7 132 RX7 yX7_sayOf wsX7_sayOf) := goodIn_app (goodIn_of _ (by decide +kernel)) ggX7_change_X7_sayOf
theorem dX7_change_0 : decode cX7_change 0 = .ok (.aload_n 0, 1) := by decide +kernel
theorem dX7_change_1 : decode cX7_change 1 = .ok (.iload_n 1, 1) := by decide +kernel
theorem dX7_change_2 : decode cX7_change 2 = .ok (.invokevirtual 115, 3) := by decide +kernel
theorem dX7_change_5 : decode cX7_change 5 = .ok (.ifCond .eq 32, 3) := by decide +kernel
theorem dX7_change_8 : decode cX7_change 8 = .ok (.iload_n 2, 1) := by decide +kernel
theorem dX7_change_9 : decode cX7_change 9 = .ok (.ifCond .eq 8, 3) := by decide +kernel
theorem dX7_change_12 : decode cX7_change 12 = .ok (.iload_n 2, 1) := by decide +kernel
theorem dX7_change_13 : decode cX7_change 13 = .ok (.iconst 3, 1) := by decide +kernel
theorem dX7_change_14 : decode cX7_change 14 = .ok (.if_icmp .ne 23, 3) := by decide +kernel
theorem dX7_change_17 : decode cX7_change 17 = .ok (.iload_n 3, 1) := by decide +kernel
theorem dX7_change_18 : decode cX7_change 18 = .ok (.i2l, 1) := by decide +kernel
theorem dX7_change_19 : decode cX7_change 19 = .ok (.lconst 0, 1) := by decide +kernel
theorem dX7_change_20 : decode cX7_change 20 = .ok (.iload_n 2, 1) := by decide +kernel
theorem dX7_change_21 : decode cX7_change 21 = .ok (.ifCond .ne 9, 3) := by decide +kernel
theorem dX7_change_24 : decode cX7_change 24 = .ok (.ldc2_w 100, 3) := by decide +kernel
theorem dX7_change_27 : decode cX7_change 27 = .ok (.goto 4, 3) := by decide +kernel
theorem dX7_change_30 : decode cX7_change 30 = .ok (.lconst 1, 1) := by decide +kernel
theorem dX7_change_31 : decode cX7_change 31 = .ok (.invokestatic 58, 3) := by decide +kernel
theorem dX7_change_34 : decode cX7_change 34 = .ok (.ifCond .ne 9, 3) := by decide +kernel
theorem dX7_change_37 : decode cX7_change 37 = .ok (.aload_n 0, 1) := by decide +kernel
theorem dX7_change_38 : decode cX7_change 38 = .ok (.iconst 0, 1) := by decide +kernel
theorem dX7_change_39 : decode cX7_change 39 = .ok (.invokevirtual 106, 3) := by decide +kernel
theorem dX7_change_42 : decode cX7_change 42 = .ok (.ireturn, 1) := by decide +kernel
theorem dX7_change_43 : decode cX7_change 43 = .ok (.iload_n 2, 1) := by decide +kernel
theorem dX7_change_44 : decode cX7_change 44 = .ok (.ifCond .ne 11, 3) := by decide +kernel
theorem dX7_change_47 : decode cX7_change 47 = .ok (.aload_n 0, 1) := by decide +kernel
theorem dX7_change_48 : decode cX7_change 48 = .ok (.iload_n 1, 1) := by decide +kernel
theorem dX7_change_49 : decode cX7_change 49 = .ok (.invokevirtual 75, 3) := by decide +kernel
theorem dX7_change_52 : decode cX7_change 52 = .ok (.goto 8, 3) := by decide +kernel
theorem dX7_change_55 : decode cX7_change 55 = .ok (.aload_n 0, 1) := by decide +kernel
theorem dX7_change_56 : decode cX7_change 56 = .ok (.iload_n 1, 1) := by decide +kernel
theorem dX7_change_57 : decode cX7_change 57 = .ok (.invokevirtual 123, 3) := by decide +kernel
theorem dX7_change_60 : decode cX7_change 60 = .ok (.istore 4, 2) := by decide +kernel
theorem dX7_change_62 : decode cX7_change 62 = .ok (.iload_n 2, 1) := by decide +kernel
theorem dX7_change_63 : decode cX7_change 63 = .ok (.ifCond .ne 16, 3) := by decide +kernel
theorem dX7_change_66 : decode cX7_change 66 = .ok (.aload_n 0, 1) := by decide +kernel
theorem dX7_change_67 : decode cX7_change 67 = .ok (.getfield 7, 3) := by decide +kernel
theorem dX7_change_70 : decode cX7_change 70 = .ok (.bipush 10, 2) := by decide +kernel
theorem dX7_change_72 : decode cX7_change 72 = .ok (.iload_n 1, 1) := by decide +kernel
theorem dX7_change_73 : decode cX7_change 73 = .ok (.iadd, 1) := by decide +kernel
theorem dX7_change_74 : decode cX7_change 74 = .ok (.iload_n 3, 1) := by decide +kernel
theorem dX7_change_75 : decode cX7_change 75 = .ok (.iastore, 1) := by decide +kernel
theorem dX7_change_76 : decode cX7_change 76 = .ok (.goto 9, 3) := by decide +kernel
theorem dX7_change_79 : decode cX7_change 79 = .ok (.aload_n 0, 1) := by decide +kernel
theorem dX7_change_80 : decode cX7_change 80 = .ok (.iload_n 1, 1) := by decide +kernel
theorem dX7_change_81 : decode cX7_change 81 = .ok (.iload_n 3, 1) := by decide +kernel
theorem dX7_change_82 : decode cX7_change 82 = .ok (.invokevirtual 132, 3) := by decide +kernel
theorem dX7_change_85 : decode cX7_change 85 = .ok (.iload 4, 2) := by decide +kernel
theorem dX7_change_87 : decode cX7_change 87 = .ok (.ireturn, 1) := by decide +kernel
set_option maxRecDepth 20000 in
theorem ggX7_move_X7_isTent : GoodIn wsX7_move wsX7_isTent := goodIn_r _ [6, 1, 7, 8, 5, 9, 35, 36, 37, 38, 39, 40, 41, 42, 43, 44, 45, 46, 47, 48, 49, 50, 51, 52, 53, 54, 55, 56, 57, 58, 59, 60, 61, 62] (by decide +kernel) (by decide +kernel)
set_option maxRecDepth 20000 in
theorem gX7_move_X7_isTent : GoodIn wsX7_move (wsV RX7 115 RX7 yX7_isTent wsX7_isTent) := goodIn_app (goodIn_of _ (by decide +kernel)) ggX7_move_X7_isTent
set_option maxRecDepth 20000 in
theorem ggX7_move_X7_isYard : GoodIn wsX7_move wsX7_isYard := goodIn_r _ [12, 13, 7, 8, 5, 9] (by decide +kernel) (by decide +kernel)
set_option maxRecDepth 20000 in
theorem gX7_move_X7_isYard : GoodIn wsX7_move (va_wsS RX7 102 yX7_isYard wsX7_isYard) := goodIn_app (goodIn_of _ (by decide +kernel)) ggX7_move_X7_isYard
set_option maxRecDepth 20000 in
theorem ggX7_move_X7_finds : GoodIn wsX7_move wsX7_finds := goodIn_r _ [17, 18, 19, 35, 36, 37, 38, 39, 40, 41, 42, 43, 44, 45, 46, 47, 48, 49, 50, 51, 52, 53, 54, 55, 56, 57, 58, 59, 60, 61, 62] (by decide +kernel) (by decide +kernel)
set_option maxRecDepth 20000 in
theorem gX7_move_X7_finds : GoodIn wsX7_move (wsV RX7 106 RX7 yX7_finds wsX7_finds) := goodIn_app (goodIn_of _ (by decide +kernel)) ggX7_move_X7_finds
set_option maxRecDepth 20000 in
theorem ggX7_move_X7_whoIs : GoodIn wsX7_move wsX7_whoIs := goodIn_r _ [23, 1, 24, 25, 26, 5, 27, 35, 36, 37, 38, 39, 40, 41, 42, 43, 44, 45, 46, 47, 48, 49, 50, 51, 52, 53, 54, 55, 56, 57, 58, 59, 60, 61, 62] (by decide +kernel) (by decide +kernel)
set_option maxRecDepth 20000 in
theorem gX7_move_X7_whoIs : GoodIn wsX7_move (wsV RX7 109 RX7 yX7_whoIs wsX7_whoIs) := goodIn_app (goodIn_of _ (by decide +kernel)) ggX7_move_X7_whoIs
set_option maxRecDepth 20000 in
theorem ggX7_move_X7_yard : GoodIn wsX7_move wsX7_yard := goodIn_r _ [27, 1, 35, 36, 37, 38, 39, 40, 41, 42, 43, 44, 45, 46, 47, 48, 49, 50, 51, 52, 53, 54, 55, 56, 57, 58, 59, 60, 61, 62] (by decide +kernel) (by decide +kernel)
set_option maxRecDepth 20000 in
theorem gX7_move_X7_yard : GoodIn wsX7_move (wsV RX7 64 RX7 yX7_yard wsX7_yard) := goodIn_app (goodIn_of _ (by decide +kernel)) ggX7_move_X7_yard
set_option maxRecDepth 20000 in
theorem ggX7_move_X7_farOf : GoodIn wsX7_move wsX7_farOf := goodIn_r _ [31, 1, 32, 33, 5, 34, 35, 36, 37, 38, 39, 40, 41, 42, 43, 44, 45, 46, 47, 48, 49, 50, 51, 52, 53, 54, 55, 56, 57, 58, 59, 60, 61, 62] (by decide +kernel) (by decide +kernel)
set_option maxRecDepth 20000 in
theorem gX7_move_X7_farOf : GoodIn wsX7_move (wsV RX7 71 RX7 yX7_farOf wsX7_farOf) := goodIn_app (goodIn_of _ (by decide +kernel)) ggX7_move_X7_farOf
theorem dX7_move_0 : decode cX7_move 0 = .ok (.aload_n 0, 1) := by decide +kernel
theorem dX7_move_1 : decode cX7_move 1 = .ok (.iload_n 1, 1) := by decide +kernel
theorem dX7_move_2 : decode cX7_move 2 = .ok (.invokevirtual 115, 3) := by decide +kernel
theorem dX7_move_5 : decode cX7_move 5 = .ok (.ifCond .eq 11, 3) := by decide +kernel
theorem dX7_move_8 : decode cX7_move 8 = .ok (.iload_n 2, 1) := by decide +kernel
theorem dX7_move_9 : decode cX7_move 9 = .ok (.iload_n 3, 1) := by decide +kernel
theorem dX7_move_10 : decode cX7_move 10 = .ok (.invokestatic 102, 3) := by decide +kernel
theorem dX7_move_13 : decode cX7_move 13 = .ok (.ifCond .ne 9, 3) := by decide +kernel
theorem dX7_move_16 : decode cX7_move 16 = .ok (.aload_n 0, 1) := by decide +kernel
theorem dX7_move_17 : decode cX7_move 17 = .ok (.iconst 0, 1) := by decide +kernel
theorem dX7_move_18 : decode cX7_move 18 = .ok (.invokevirtual 106, 3) := by decide +kernel
theorem dX7_move_21 : decode cX7_move 21 = .ok (.ireturn, 1) := by decide +kernel
theorem dX7_move_22 : decode cX7_move 22 = .ok (.aload_n 0, 1) := by decide +kernel
theorem dX7_move_23 : decode cX7_move 23 = .ok (.bipush 12, 2) := by decide +kernel
theorem dX7_move_25 : decode cX7_move 25 = .ok (.iload_n 3, 1) := by decide +kernel
theorem dX7_move_26 : decode cX7_move 26 = .ok (.imul, 1) := by decide +kernel
theorem dX7_move_27 : decode cX7_move 27 = .ok (.iload_n 2, 1) := by decide +kernel
theorem dX7_move_28 : decode cX7_move 28 = .ok (.iadd, 1) := by decide +kernel
theorem dX7_move_29 : decode cX7_move 29 = .ok (.invokevirtual 109, 3) := by decide +kernel
theorem dX7_move_32 : decode cX7_move 32 = .ok (.istore 4, 2) := by decide +kernel
theorem dX7_move_34 : decode cX7_move 34 = .ok (.iload 4, 2) := by decide +kernel
theorem dX7_move_36 : decode cX7_move 36 = .ok (.iconst (-1), 1) := by decide +kernel
theorem dX7_move_37 : decode cX7_move 37 = .ok (.if_icmp .eq 15, 3) := by decide +kernel
theorem dX7_move_40 : decode cX7_move 40 = .ok (.iload 4, 2) := by decide +kernel
theorem dX7_move_42 : decode cX7_move 42 = .ok (.iload_n 1, 1) := by decide +kernel
theorem dX7_move_43 : decode cX7_move 43 = .ok (.if_icmp .eq 9, 3) := by decide +kernel
theorem dX7_move_46 : decode cX7_move 46 = .ok (.aload_n 0, 1) := by decide +kernel
theorem dX7_move_47 : decode cX7_move 47 = .ok (.iconst 4, 1) := by decide +kernel
theorem dX7_move_48 : decode cX7_move 48 = .ok (.invokevirtual 106, 3) := by decide +kernel
theorem dX7_move_51 : decode cX7_move 51 = .ok (.ireturn, 1) := by decide +kernel
theorem dX7_move_52 : decode cX7_move 52 = .ok (.aload_n 0, 1) := by decide +kernel
theorem dX7_move_53 : decode cX7_move 53 = .ok (.aload_n 0, 1) := by decide +kernel
theorem dX7_move_54 : decode cX7_move 54 = .ok (.iload_n 1, 1) := by decide +kernel
theorem dX7_move_55 : decode cX7_move 55 = .ok (.invokevirtual 64, 3) := by decide +kernel
theorem dX7_move_58 : decode cX7_move 58 = .ok (.bipush 12, 2) := by decide +kernel
theorem dX7_move_60 : decode cX7_move 60 = .ok (.iload_n 3, 1) := by decide +kernel
theorem dX7_move_61 : decode cX7_move 61 = .ok (.imul, 1) := by decide +kernel
theorem dX7_move_62 : decode cX7_move 62 = .ok (.iload_n 2, 1) := by decide +kernel
theorem dX7_move_63 : decode cX7_move 63 = .ok (.iadd, 1) := by decide +kernel
theorem dX7_move_64 : decode cX7_move 64 = .ok (.invokevirtual 71, 3) := by decide +kernel
theorem dX7_move_67 : decode cX7_move 67 = .ok (.istore 5, 2) := by decide +kernel
theorem dX7_move_69 : decode cX7_move 69 = .ok (.aload_n 0, 1) := by decide +kernel
theorem dX7_move_70 : decode cX7_move 70 = .ok (.getfield 7, 3) := by decide +kernel
theorem dX7_move_73 : decode cX7_move 73 = .ok (.bipush 20, 2) := by decide +kernel
theorem dX7_move_75 : decode cX7_move 75 = .ok (.iload_n 1, 1) := by decide +kernel
theorem dX7_move_76 : decode cX7_move 76 = .ok (.iadd, 1) := by decide +kernel
theorem dX7_move_77 : decode cX7_move 77 = .ok (.bipush 12, 2) := by decide +kernel
theorem dX7_move_79 : decode cX7_move 79 = .ok (.iload_n 3, 1) := by decide +kernel
theorem dX7_move_80 : decode cX7_move 80 = .ok (.imul, 1) := by decide +kernel
theorem dX7_move_81 : decode cX7_move 81 = .ok (.iload_n 2, 1) := by decide +kernel
theorem dX7_move_82 : decode cX7_move 82 = .ok (.iadd, 1) := by decide +kernel
theorem dX7_move_83 : decode cX7_move 83 = .ok (.iastore, 1) := by decide +kernel
theorem dX7_move_84 : decode cX7_move 84 = .ok (.iload 5, 2) := by decide +kernel
theorem dX7_move_86 : decode cX7_move 86 = .ok (.ireturn, 1) := by decide +kernel
set_option maxRecDepth 20000 in
theorem ggX7_wall_X7_in : GoodIn wsX7_wall wsX7_in := goodIn_r _ [7] (by decide +kernel) (by decide +kernel)
set_option maxRecDepth 20000 in
theorem gX7_wall_X7_in : GoodIn wsX7_wall (va_wsS RX7 58 yX7_in wsX7_in) := goodIn_app (goodIn_of _ (by decide +kernel)) ggX7_wall_X7_in
set_option maxRecDepth 20000 in
theorem ggX7_wall_X7_finds : GoodIn wsX7_wall wsX7_finds := goodIn_r _ [11, 12, 13, 14, 15, 16, 17, 18, 19, 20, 21, 22, 23, 24, 25, 26, 27, 28, 29, 30, 31, 32, 33, 34, 35, 36, 37, 38, 39, 40, 41] (by decide +kernel) (by decide +kernel)
set_option maxRecDepth 20000 in
theorem gX7_wall_X7_finds : GoodIn wsX7_wall (wsV RX7 106 RX7 yX7_finds wsX7_finds) := goodIn_app (goodIn_of _ (by decide +kernel)) ggX7_wall_X7_finds
theorem dX7_wall_0 : decode cX7_wall 0 = .ok (.iload_n 1, 1) := by decide +kernel
theorem dX7_wall_1 : decode cX7_wall 1 = .ok (.i2l, 1) := by decide +kernel
theorem dX7_wall_2 : decode cX7_wall 2 = .ok (.lconst 0, 1) := by decide +kernel
theorem dX7_wall_3 : decode cX7_wall 3 = .ok (.ldc2_w 136, 3) := by decide +kernel
theorem dX7_wall_6 : decode cX7_wall 6 = .ok (.invokestatic 58, 3) := by decide +kernel
theorem dX7_wall_9 : decode cX7_wall 9 = .ok (.ifCond .eq 24, 3) := by decide +kernel
theorem dX7_wall_12 : decode cX7_wall 12 = .ok (.iload_n 2, 1) := by decide +kernel
theorem dX7_wall_13 : decode cX7_wall 13 = .ok (.i2l, 1) := by decide +kernel
theorem dX7_wall_14 : decode cX7_wall 14 = .ok (.lconst 0, 1) := by decide +kernel
theorem dX7_wall_15 : decode cX7_wall 15 = .ok (.iload_n 1, 1) := by decide +kernel
theorem dX7_wall_16 : decode cX7_wall 16 = .ok (.iconst 2, 1) := by decide +kernel
theorem dX7_wall_17 : decode cX7_wall 17 = .ok (.if_icmp .ne 7, 3) := by decide +kernel
theorem dX7_wall_20 : decode cX7_wall 20 = .ok (.lconst 1, 1) := by decide +kernel
theorem dX7_wall_21 : decode cX7_wall 21 = .ok (.goto 6, 3) := by decide +kernel
theorem dX7_wall_24 : decode cX7_wall 24 = .ok (.ldc2_w 62, 3) := by decide +kernel
theorem dX7_wall_27 : decode cX7_wall 27 = .ok (.invokestatic 58, 3) := by decide +kernel
theorem dX7_wall_30 : decode cX7_wall 30 = .ok (.ifCond .ne 9, 3) := by decide +kernel
theorem dX7_wall_33 : decode cX7_wall 33 = .ok (.aload_n 0, 1) := by decide +kernel
theorem dX7_wall_34 : decode cX7_wall 34 = .ok (.iconst 0, 1) := by decide +kernel
theorem dX7_wall_35 : decode cX7_wall 35 = .ok (.invokevirtual 106, 3) := by decide +kernel
theorem dX7_wall_38 : decode cX7_wall 38 = .ok (.ireturn, 1) := by decide +kernel
theorem dX7_wall_39 : decode cX7_wall 39 = .ok (.aload_n 0, 1) := by decide +kernel
theorem dX7_wall_40 : decode cX7_wall 40 = .ok (.getfield 7, 3) := by decide +kernel
theorem dX7_wall_43 : decode cX7_wall 43 = .ok (.iconst 3, 1) := by decide +kernel
theorem dX7_wall_44 : decode cX7_wall 44 = .ok (.iload_n 1, 1) := by decide +kernel
theorem dX7_wall_45 : decode cX7_wall 45 = .ok (.iadd, 1) := by decide +kernel
theorem dX7_wall_46 : decode cX7_wall 46 = .ok (.iaload, 1) := by decide +kernel
theorem dX7_wall_47 : decode cX7_wall 47 = .ok (.istore_n 3, 1) := by decide +kernel
theorem dX7_wall_48 : decode cX7_wall 48 = .ok (.aload_n 0, 1) := by decide +kernel
theorem dX7_wall_49 : decode cX7_wall 49 = .ok (.getfield 7, 3) := by decide +kernel
theorem dX7_wall_52 : decode cX7_wall 52 = .ok (.iconst 3, 1) := by decide +kernel
theorem dX7_wall_53 : decode cX7_wall 53 = .ok (.iload_n 1, 1) := by decide +kernel
theorem dX7_wall_54 : decode cX7_wall 54 = .ok (.iadd, 1) := by decide +kernel
theorem dX7_wall_55 : decode cX7_wall 55 = .ok (.iload_n 2, 1) := by decide +kernel
theorem dX7_wall_56 : decode cX7_wall 56 = .ok (.iastore, 1) := by decide +kernel
theorem dX7_wall_57 : decode cX7_wall 57 = .ok (.iload_n 3, 1) := by decide +kernel
theorem dX7_wall_58 : decode cX7_wall 58 = .ok (.ireturn, 1) := by decide +kernel
set_option maxRecDepth 20000 in
theorem ggX7_on_X7_isYard : GoodIn wsX7_on wsX7_isYard := goodIn_r _ [4, 5, 6, 7, 3, 8] (by decide +kernel) (by decide +kernel)
set_option maxRecDepth 20000 in
theorem gX7_on_X7_isYard : GoodIn wsX7_on (va_wsS RX7 102 yX7_isYard wsX7_isYard) := goodIn_app (goodIn_of _ (by decide +kernel)) ggX7_on_X7_isYard
set_option maxRecDepth 20000 in
theorem ggX7_on_X7_finds : GoodIn wsX7_on wsX7_finds := goodIn_r _ [12, 13, 14, 24, 25, 26, 27, 28, 29, 30, 31, 32, 33, 34, 35, 36, 37, 38, 39, 40, 41, 42, 43, 44, 45, 46, 47, 48, 49, 50, 51] (by decide +kernel) (by decide +kernel)
set_option maxRecDepth 20000 in
theorem gX7_on_X7_finds : GoodIn wsX7_on (wsV RX7 106 RX7 yX7_finds wsX7_finds) := goodIn_app (goodIn_of _ (by decide +kernel)) ggX7_on_X7_finds
set_option maxRecDepth 20000 in
theorem ggX7_on_X7_whoIs : GoodIn wsX7_on wsX7_whoIs := goodIn_r _ [18, 19, 20, 21, 22, 3, 23, 24, 25, 26, 27, 28, 29, 30, 31, 32, 33, 34, 35, 36, 37, 38, 39, 40, 41, 42, 43, 44, 45, 46, 47, 48, 49, 50, 51] (by decide +kernel) (by decide +kernel)
set_option maxRecDepth 20000 in
theorem gX7_on_X7_whoIs : GoodIn wsX7_on (wsV RX7 109 RX7 yX7_whoIs wsX7_whoIs) := goodIn_app (goodIn_of _ (by decide +kernel)) ggX7_on_X7_whoIs
theorem dX7_on_0 : decode cX7_on 0 = .ok (.iload_n 1, 1) := by decide +kernel
theorem dX7_on_1 : decode cX7_on 1 = .ok (.iload_n 2, 1) := by decide +kernel
theorem dX7_on_2 : decode cX7_on 2 = .ok (.invokestatic 102, 3) := by decide +kernel
theorem dX7_on_5 : decode cX7_on 5 = .ok (.ifCond .ne 9, 3) := by decide +kernel
theorem dX7_on_8 : decode cX7_on 8 = .ok (.aload_n 0, 1) := by decide +kernel
theorem dX7_on_9 : decode cX7_on 9 = .ok (.iconst 0, 1) := by decide +kernel
theorem dX7_on_10 : decode cX7_on 10 = .ok (.invokevirtual 106, 3) := by decide +kernel
theorem dX7_on_13 : decode cX7_on 13 = .ok (.ireturn, 1) := by decide +kernel
theorem dX7_on_14 : decode cX7_on 14 = .ok (.aload_n 0, 1) := by decide +kernel
theorem dX7_on_15 : decode cX7_on 15 = .ok (.bipush 12, 2) := by decide +kernel
theorem dX7_on_17 : decode cX7_on 17 = .ok (.iload_n 2, 1) := by decide +kernel
theorem dX7_on_18 : decode cX7_on 18 = .ok (.imul, 1) := by decide +kernel
theorem dX7_on_19 : decode cX7_on 19 = .ok (.iload_n 1, 1) := by decide +kernel
theorem dX7_on_20 : decode cX7_on 20 = .ok (.iadd, 1) := by decide +kernel
theorem dX7_on_21 : decode cX7_on 21 = .ok (.invokevirtual 109, 3) := by decide +kernel
theorem dX7_on_24 : decode cX7_on 24 = .ok (.istore_n 3, 1) := by decide +kernel
theorem dX7_on_25 : decode cX7_on 25 = .ok (.iload_n 3, 1) := by decide +kernel
theorem dX7_on_26 : decode cX7_on 26 = .ok (.iconst (-1), 1) := by decide +kernel
theorem dX7_on_27 : decode cX7_on 27 = .ok (.if_icmp .ne 11, 3) := by decide +kernel
theorem dX7_on_30 : decode cX7_on 30 = .ok (.aload_n 0, 1) := by decide +kernel
theorem dX7_on_31 : decode cX7_on 31 = .ok (.iconst 3, 1) := by decide +kernel
theorem dX7_on_32 : decode cX7_on 32 = .ok (.invokevirtual 106, 3) := by decide +kernel
theorem dX7_on_35 : decode cX7_on 35 = .ok (.goto 4, 3) := by decide +kernel
theorem dX7_on_38 : decode cX7_on 38 = .ok (.iload_n 3, 1) := by decide +kernel
theorem dX7_on_39 : decode cX7_on 39 = .ok (.ireturn, 1) := by decide +kernel
set_option maxRecDepth 20000 in
theorem ggX7_far_X7_isTent : GoodIn wsX7_far wsX7_isTent := goodIn_r _ [5, 6, 7, 8, 4, 9, 27, 28, 29, 30, 31, 32, 33, 34, 35, 36, 37, 38, 39, 40, 41, 42, 43, 44, 45, 46, 47, 48, 49, 50, 51, 52, 53, 54] (by decide +kernel) (by decide +kernel)
set_option maxRecDepth 20000 in
theorem gX7_far_X7_isTent : GoodIn wsX7_far (wsV RX7 115 RX7 yX7_isTent wsX7_isTent) := goodIn_app (goodIn_of _ (by decide +kernel)) ggX7_far_X7_isTent
set_option maxRecDepth 20000 in
theorem ggX7_far_X7_yard : GoodIn wsX7_far wsX7_yard := goodIn_r _ [13, 6, 27, 28, 29, 30, 31, 32, 33, 34, 35, 36, 37, 38, 39, 40, 41, 42, 43, 44, 45, 46, 47, 48, 49, 50, 51, 52, 53, 54] (by decide +kernel) (by decide +kernel)
set_option maxRecDepth 20000 in
theorem gX7_far_X7_yard : GoodIn wsX7_far (wsV RX7 64 RX7 yX7_yard wsX7_yard) := goodIn_app (goodIn_of _ (by decide +kernel)) ggX7_far_X7_yard
set_option maxRecDepth 20000 in
theorem ggX7_far_X7_farOf : GoodIn wsX7_far wsX7_farOf := goodIn_r _ [17, 6, 18, 19, 4, 20, 27, 28, 29, 30, 31, 32, 33, 34, 35, 36, 37, 38, 39, 40, 41, 42, 43, 44, 45, 46, 47, 48, 49, 50, 51, 52, 53, 54] (by decide +kernel) (by decide +kernel)
set_option maxRecDepth 20000 in
theorem gX7_far_X7_farOf : GoodIn wsX7_far (wsV RX7 71 RX7 yX7_farOf wsX7_farOf) := goodIn_app (goodIn_of _ (by decide +kernel)) ggX7_far_X7_farOf
set_option maxRecDepth 20000 in
theorem ggX7_far_X7_finds : GoodIn wsX7_far wsX7_finds := goodIn_r _ [24, 25, 26, 27, 28, 29, 30, 31, 32, 33, 34, 35, 36, 37, 38, 39, 40, 41, 42, 43, 44, 45, 46, 47, 48, 49, 50, 51, 52, 53, 54] (by decide +kernel) (by decide +kernel)
set_option maxRecDepth 20000 in
theorem gX7_far_X7_finds : GoodIn wsX7_far (wsV RX7 106 RX7 yX7_finds wsX7_finds) := goodIn_app (goodIn_of _ (by decide +kernel)) ggX7_far_X7_finds
theorem dX7_far_0 : decode cX7_far 0 = .ok (.aload_n 0, 1) := by decide +kernel
theorem dX7_far_1 : decode cX7_far 1 = .ok (.iload_n 1, 1) := by decide +kernel
theorem dX7_far_2 : decode cX7_far 2 = .ok (.invokevirtual 115, 3) := by decide +kernel
theorem dX7_far_5 : decode cX7_far 5 = .ok (.ifCond .eq 28, 3) := by decide +kernel
theorem dX7_far_8 : decode cX7_far 8 = .ok (.aload_n 0, 1) := by decide +kernel
theorem dX7_far_9 : decode cX7_far 9 = .ok (.iload_n 2, 1) := by decide +kernel
theorem dX7_far_10 : decode cX7_far 10 = .ok (.invokevirtual 115, 3) := by decide +kernel
theorem dX7_far_13 : decode cX7_far 13 = .ok (.ifCond .eq 20, 3) := by decide +kernel
theorem dX7_far_16 : decode cX7_far 16 = .ok (.aload_n 0, 1) := by decide +kernel
theorem dX7_far_17 : decode cX7_far 17 = .ok (.aload_n 0, 1) := by decide +kernel
theorem dX7_far_18 : decode cX7_far 18 = .ok (.iload_n 1, 1) := by decide +kernel
theorem dX7_far_19 : decode cX7_far 19 = .ok (.invokevirtual 64, 3) := by decide +kernel
theorem dX7_far_22 : decode cX7_far 22 = .ok (.aload_n 0, 1) := by decide +kernel
theorem dX7_far_23 : decode cX7_far 23 = .ok (.iload_n 2, 1) := by decide +kernel
theorem dX7_far_24 : decode cX7_far 24 = .ok (.invokevirtual 64, 3) := by decide +kernel
theorem dX7_far_27 : decode cX7_far 27 = .ok (.invokevirtual 71, 3) := by decide +kernel
theorem dX7_far_30 : decode cX7_far 30 = .ok (.goto 8, 3) := by decide +kernel
theorem dX7_far_33 : decode cX7_far 33 = .ok (.aload_n 0, 1) := by decide +kernel
theorem dX7_far_34 : decode cX7_far 34 = .ok (.iconst 0, 1) := by decide +kernel
theorem dX7_far_35 : decode cX7_far 35 = .ok (.invokevirtual 106, 3) := by decide +kernel
theorem dX7_far_38 : decode cX7_far 38 = .ok (.ireturn, 1) := by decide +kernel
set_option maxRecDepth 20000 in
theorem ggX7_nearest_X7_isTent : GoodIn wsX7_nearest wsX7_isTent := goodIn_r _ [6, 1, 7, 8, 5, 9, 32, 33, 34, 35, 36, 37, 38, 39, 40, 41, 42, 43, 44, 45, 46, 47, 48, 49, 50, 51, 52, 53, 54, 55, 56, 57, 58, 59] (by decide +kernel) (by decide +kernel)
set_option maxRecDepth 20000 in
theorem gX7_nearest_X7_isTent : GoodIn wsX7_nearest (wsV RX7 115 RX7 yX7_isTent wsX7_isTent) := goodIn_app (goodIn_of _ (by decide +kernel)) ggX7_nearest_X7_isTent
set_option maxRecDepth 20000 in
theorem ggX7_nearest_X7_finds : GoodIn wsX7_nearest wsX7_finds := goodIn_r _ [13, 14, 15, 32, 33, 34, 35, 36, 37, 38, 39, 40, 41, 42, 43, 44, 45, 46, 47, 48, 49, 50, 51, 52, 53, 54, 55, 56, 57, 58, 59] (by decide +kernel) (by decide +kernel)
set_option maxRecDepth 20000 in
theorem gX7_nearest_X7_finds : GoodIn wsX7_nearest (wsV RX7 106 RX7 yX7_finds wsX7_finds) := goodIn_app (goodIn_of _ (by decide +kernel)) ggX7_nearest_X7_finds
set_option maxRecDepth 20000 in
theorem ggX7_nearest_X7_nearestOf : GoodIn wsX7_nearest wsX7_nearestOf := goodIn_r _ [19, 20, 21, 22, 23, 5, 24, 1, 25, 26, 27, 28, 29, 30, 31, 32, 33, 34, 35, 36, 37, 38, 39, 40, 41, 42, 43, 44, 45, 46, 47, 48, 49, 50, 51, 52, 53, 54, 55, 56, 57, 58, 59] (by decide +kernel) (by decide +kernel)
set_option maxRecDepth 20000 in
theorem gX7_nearest_X7_nearestOf : GoodIn wsX7_nearest (wsV RX7 78 RX7 yX7_nearestOf wsX7_nearestOf) := goodIn_app (goodIn_of _ (by decide +kernel)) ggX7_nearest_X7_nearestOf
theorem dX7_nearest_0 : decode cX7_nearest 0 = .ok (.aload_n 0, 1) := by decide +kernel
theorem dX7_nearest_1 : decode cX7_nearest 1 = .ok (.iload_n 1, 1) := by decide +kernel
theorem dX7_nearest_2 : decode cX7_nearest 2 = .ok (.invokevirtual 115, 3) := by decide +kernel
theorem dX7_nearest_5 : decode cX7_nearest 5 = .ok (.ifCond .ne 9, 3) := by decide +kernel
theorem dX7_nearest_8 : decode cX7_nearest 8 = .ok (.aload_n 0, 1) := by decide +kernel
theorem dX7_nearest_9 : decode cX7_nearest 9 = .ok (.iconst 0, 1) := by decide +kernel
theorem dX7_nearest_10 : decode cX7_nearest 10 = .ok (.invokevirtual 106, 3) := by decide +kernel
theorem dX7_nearest_13 : decode cX7_nearest 13 = .ok (.ireturn, 1) := by decide +kernel
theorem dX7_nearest_14 : decode cX7_nearest 14 = .ok (.aload_n 0, 1) := by decide +kernel
theorem dX7_nearest_15 : decode cX7_nearest 15 = .ok (.iload_n 1, 1) := by decide +kernel
theorem dX7_nearest_16 : decode cX7_nearest 16 = .ok (.aload_n 0, 1) := by decide +kernel
theorem dX7_nearest_17 : decode cX7_nearest 17 = .ok (.getfield 7, 3) := by decide +kernel
theorem dX7_nearest_20 : decode cX7_nearest 20 = .ok (.iconst 0, 1) := by decide +kernel
theorem dX7_nearest_21 : decode cX7_nearest 21 = .ok (.iaload, 1) := by decide +kernel
theorem dX7_nearest_22 : decode cX7_nearest 22 = .ok (.invokevirtual 78, 3) := by decide +kernel
theorem dX7_nearest_25 : decode cX7_nearest 25 = .ok (.istore_n 2, 1) := by decide +kernel
theorem dX7_nearest_26 : decode cX7_nearest 26 = .ok (.iload_n 2, 1) := by decide +kernel
theorem dX7_nearest_27 : decode cX7_nearest 27 = .ok (.iconst (-1), 1) := by decide +kernel
theorem dX7_nearest_28 : decode cX7_nearest 28 = .ok (.if_icmp .ne 11, 3) := by decide +kernel
theorem dX7_nearest_31 : decode cX7_nearest 31 = .ok (.aload_n 0, 1) := by decide +kernel
theorem dX7_nearest_32 : decode cX7_nearest 32 = .ok (.iconst 3, 1) := by decide +kernel
theorem dX7_nearest_33 : decode cX7_nearest 33 = .ok (.invokevirtual 106, 3) := by decide +kernel
theorem dX7_nearest_36 : decode cX7_nearest 36 = .ok (.goto 4, 3) := by decide +kernel
theorem dX7_nearest_39 : decode cX7_nearest 39 = .ok (.iload_n 2, 1) := by decide +kernel
theorem dX7_nearest_40 : decode cX7_nearest 40 = .ok (.ireturn, 1) := by decide +kernel
set_option maxRecDepth 20000 in
theorem ggX7_hearing_X7_isTent : GoodIn wsX7_hearing wsX7_isTent := goodIn_r _ [7, 1, 8, 9, 6, 10, 46, 47, 48, 49, 50, 51, 52, 53, 54, 55, 56, 57, 58, 59, 60, 61, 62, 63, 64, 65, 66, 67, 68, 69, 70, 71, 72, 73] (by decide +kernel) (by decide +kernel)
set_option maxRecDepth 20000 in
theorem gX7_hearing_X7_isTent : GoodIn wsX7_hearing (wsV RX7 115 RX7 yX7_isTent wsX7_isTent) := goodIn_app (goodIn_of _ (by decide +kernel)) ggX7_hearing_X7_isTent
set_option maxRecDepth 20000 in
theorem ggX7_hearing_X7_finds : GoodIn wsX7_hearing wsX7_finds := goodIn_r _ [14, 15, 16, 46, 47, 48, 49, 50, 51, 52, 53, 54, 55, 56, 57, 58, 59, 60, 61, 62, 63, 64, 65, 66, 67, 68, 69, 70, 71, 72, 73] (by decide +kernel) (by decide +kernel)
set_option maxRecDepth 20000 in
theorem gX7_hearing_X7_finds : GoodIn wsX7_hearing (wsV RX7 106 RX7 yX7_finds wsX7_finds) := goodIn_app (goodIn_of _ (by decide +kernel)) ggX7_hearing_X7_finds
set_option maxRecDepth 20000 in
theorem ggX7_hearing_X7_listen : GoodIn wsX7_hearing wsX7_listen := goodIn_r _ [20, 1, 21, 2, 22, 23, 24, 6, 25, 26, 27, 28, 29, 30, 31, 32, 33, 34, 35, 36, 37, 38, 39, 40, 41, 42, 43, 44, 45, 46, 47, 48, 49, 50, 51, 52, 53, 54, 55, 56, 57, 58, 59, 60, 61, 62, 63, 64, 65, 66, 67, 68, 69, 70, 71, 72, 73] (by decide +kernel) (by decide +kernel)
set_option maxRecDepth 20000 in
theorem gX7_hearing_X7_listen : GoodIn wsX7_hearing (wsV RX7 120 RX7 yX7_listen wsX7_listen) := goodIn_app (goodIn_of _ (by decide +kernel)) ggX7_hearing_X7_listen
theorem dX7_hearing_0 : decode cX7_hearing 0 = .ok (.aload_n 0, 1) := by decide +kernel
theorem dX7_hearing_1 : decode cX7_hearing 1 = .ok (.iload_n 1, 1) := by decide +kernel
theorem dX7_hearing_2 : decode cX7_hearing 2 = .ok (.invokevirtual 115, 3) := by decide +kernel
theorem dX7_hearing_5 : decode cX7_hearing 5 = .ok (.ifCond .ne 9, 3) := by decide +kernel
theorem dX7_hearing_8 : decode cX7_hearing 8 = .ok (.aload_n 0, 1) := by decide +kernel
theorem dX7_hearing_9 : decode cX7_hearing 9 = .ok (.iconst 0, 1) := by decide +kernel
theorem dX7_hearing_10 : decode cX7_hearing 10 = .ok (.invokevirtual 106, 3) := by decide +kernel
theorem dX7_hearing_13 : decode cX7_hearing 13 = .ok (.ireturn, 1) := by decide +kernel
theorem dX7_hearing_14 : decode cX7_hearing 14 = .ok (.aload_n 0, 1) := by decide +kernel
theorem dX7_hearing_15 : decode cX7_hearing 15 = .ok (.invokevirtual 120, 3) := by decide +kernel
theorem dX7_hearing_18 : decode cX7_hearing 18 = .ok (.iconst 0, 1) := by decide +kernel
theorem dX7_hearing_19 : decode cX7_hearing 19 = .ok (.istore_n 2, 1) := by decide +kernel
theorem dX7_hearing_20 : decode cX7_hearing 20 = .ok (.iconst 0, 1) := by decide +kernel
theorem dX7_hearing_21 : decode cX7_hearing 21 = .ok (.istore_n 3, 1) := by decide +kernel
theorem dX7_hearing_22 : decode cX7_hearing 22 = .ok (.iload_n 3, 1) := by decide +kernel
theorem dX7_hearing_23 : decode cX7_hearing 23 = .ok (.aload_n 0, 1) := by decide +kernel
theorem dX7_hearing_24 : decode cX7_hearing 24 = .ok (.getfield 7, 3) := by decide +kernel
theorem dX7_hearing_27 : decode cX7_hearing 27 = .ok (.iconst 0, 1) := by decide +kernel
theorem dX7_hearing_28 : decode cX7_hearing 28 = .ok (.iaload, 1) := by decide +kernel
theorem dX7_hearing_29 : decode cX7_hearing 29 = .ok (.if_icmp .ge 29, 3) := by decide +kernel
theorem dX7_hearing_32 : decode cX7_hearing 32 = .ok (.iload_n 2, 1) := by decide +kernel
theorem dX7_hearing_33 : decode cX7_hearing 33 = .ok (.aload_n 0, 1) := by decide +kernel
theorem dX7_hearing_34 : decode cX7_hearing 34 = .ok (.getfield 30, 3) := by decide +kernel
theorem dX7_hearing_37 : decode cX7_hearing 37 = .ok (.iload_n 3, 1) := by decide +kernel
theorem dX7_hearing_38 : decode cX7_hearing 38 = .ok (.iaload, 1) := by decide +kernel
theorem dX7_hearing_39 : decode cX7_hearing 39 = .ok (.iload_n 1, 1) := by decide +kernel
theorem dX7_hearing_40 : decode cX7_hearing 40 = .ok (.if_icmp .ne 9, 3) := by decide +kernel
theorem dX7_hearing_43 : decode cX7_hearing 43 = .ok (.iconst 1, 1) := by decide +kernel
theorem dX7_hearing_44 : decode cX7_hearing 44 = .ok (.iload_n 3, 1) := by decide +kernel
theorem dX7_hearing_45 : decode cX7_hearing 45 = .ok (.ishl, 1) := by decide +kernel
theorem dX7_hearing_46 : decode cX7_hearing 46 = .ok (.goto 4, 3) := by decide +kernel
theorem dX7_hearing_49 : decode cX7_hearing 49 = .ok (.iconst 0, 1) := by decide +kernel
theorem dX7_hearing_50 : decode cX7_hearing 50 = .ok (.ior, 1) := by decide +kernel
theorem dX7_hearing_51 : decode cX7_hearing 51 = .ok (.istore_n 2, 1) := by decide +kernel
theorem dX7_hearing_52 : decode cX7_hearing 52 = .ok (.iinc 3 1, 3) := by decide +kernel
theorem dX7_hearing_55 : decode cX7_hearing 55 = .ok (.goto (-33), 3) := by decide +kernel
theorem dX7_hearing_58 : decode cX7_hearing 58 = .ok (.iload_n 2, 1) := by decide +kernel
theorem dX7_hearing_59 : decode cX7_hearing 59 = .ok (.ireturn, 1) := by decide +kernel
set_option maxRecDepth 20000 in
theorem ggX7_days_X7_in : GoodIn wsX7_days wsX7_in := goodIn_r _ [7] (by decide +kernel) (by decide +kernel)
set_option maxRecDepth 20000 in
theorem gX7_days_X7_in : GoodIn wsX7_days (va_wsS RX7 58 yX7_in wsX7_in) := goodIn_app (goodIn_of _ (by decide +kernel)) ggX7_days_X7_in
set_option maxRecDepth 20000 in
theorem ggX7_days_X7_finds : GoodIn wsX7_days wsX7_finds := goodIn_r _ [11, 12, 13, 67, 68, 69, 70, 71, 72, 73, 74, 75, 76, 77, 78, 79, 80, 81, 82, 83, 84, 85, 86, 87, 88, 89, 90, 91, 92, 93, 94] (by decide +kernel) (by decide +kernel)
set_option maxRecDepth 20000 in
theorem gX7_days_X7_finds : GoodIn wsX7_days (wsV RX7 106 RX7 yX7_finds wsX7_finds) := goodIn_app (goodIn_of _ (by decide +kernel)) ggX7_days_X7_finds
set_option maxRecDepth 20000 in
theorem ggX7_days_X7_listen : GoodIn wsX7_days wsX7_listen := goodIn_r _ [17, 2, 18, 19, 20, 21, 22, 6, 23, 24, 25, 26, 27, 28, 29, 30, 31, 32, 33, 34, 35, 36, 37, 38, 39, 40, 41, 42, 43, 67, 68, 69, 70, 71, 72, 73, 74, 75, 76, 77, 78, 79, 80, 81, 82, 83, 84, 85, 86, 87, 88, 89, 90, 91, 92, 93, 94] (by decide +kernel) (by decide +kernel)
set_option maxRecDepth 20000 in
theorem gX7_days_X7_listen : GoodIn wsX7_days (wsV RX7 120 RX7 yX7_listen wsX7_listen) := goodIn_app (goodIn_of _ (by decide +kernel)) ggX7_days_X7_listen
set_option maxRecDepth 20000 in
theorem ggX7_days_X7_goThrough : GoodIn wsX7_days wsX7_goThrough := goodIn_r _ [47, 48, 49, 50, 51, 52, 53, 54, 6, 55, 2, 56, 57, 58, 59, 19, 18, 20, 21, 22, 23, 67, 68, 69, 70, 71, 72, 73, 74, 75, 76, 77, 78, 79, 80, 81, 82, 83, 84, 85, 86, 87, 88, 89, 90, 91, 92, 93, 94] (by decide +kernel) (by decide +kernel)
set_option maxRecDepth 20000 in
theorem gX7_days_X7_goThrough : GoodIn wsX7_days (wsV RX7 141 RX7 yX7_goThrough wsX7_goThrough) := goodIn_app (goodIn_of _ (by decide +kernel)) ggX7_days_X7_goThrough
set_option maxRecDepth 20000 in
theorem ggX7_days_X7_saidBehind : GoodIn wsX7_days wsX7_saidBehind := goodIn_r _ [63, 50, 49, 51, 67, 68, 69, 70, 71, 72, 73, 74, 75, 76, 77, 78, 79, 80, 81, 82, 83, 84, 85, 86, 87, 88, 89, 90, 91, 92, 93, 94] (by decide +kernel) (by decide +kernel)
set_option maxRecDepth 20000 in
theorem gX7_days_X7_saidBehind : GoodIn wsX7_days (wsV RX7 145 RX7 yX7_saidBehind wsX7_saidBehind) := goodIn_app (goodIn_of _ (by decide +kernel)) ggX7_days_X7_saidBehind
set_option maxRecDepth 20000 in
theorem ggX7_days_X7_ones : GoodIn wsX7_days wsX7_ones := goodIn_r _ [66] (by decide +kernel) (by decide +kernel)
set_option maxRecDepth 20000 in
theorem gX7_days_X7_ones : GoodIn wsX7_days (va_wsS RX7 148 yX7_ones wsX7_ones) := goodIn_app (goodIn_of _ (by decide +kernel)) ggX7_days_X7_ones
theorem dX7_days_0 : decode cX7_days 0 = .ok (.iload_n 1, 1) := by decide +kernel
theorem dX7_days_1 : decode cX7_days 1 = .ok (.i2l, 1) := by decide +kernel
theorem dX7_days_2 : decode cX7_days 2 = .ok (.lconst 1, 1) := by decide +kernel
theorem dX7_days_3 : decode cX7_days 3 = .ok (.ldc2_w 138, 3) := by decide +kernel
theorem dX7_days_6 : decode cX7_days 6 = .ok (.invokestatic 58, 3) := by decide +kernel
theorem dX7_days_9 : decode cX7_days 9 = .ok (.ifCond .ne 9, 3) := by decide +kernel
theorem dX7_days_12 : decode cX7_days 12 = .ok (.aload_n 0, 1) := by decide +kernel
theorem dX7_days_13 : decode cX7_days 13 = .ok (.iconst 0, 1) := by decide +kernel
theorem dX7_days_14 : decode cX7_days 14 = .ok (.invokevirtual 106, 3) := by decide +kernel
theorem dX7_days_17 : decode cX7_days 17 = .ok (.ireturn, 1) := by decide +kernel
theorem dX7_days_18 : decode cX7_days 18 = .ok (.aload_n 0, 1) := by decide +kernel
theorem dX7_days_19 : decode cX7_days 19 = .ok (.getfield 7, 3) := by decide +kernel
theorem dX7_days_22 : decode cX7_days 22 = .ok (.iconst 1, 1) := by decide +kernel
theorem dX7_days_23 : decode cX7_days 23 = .ok (.iaload, 1) := by decide +kernel
theorem dX7_days_24 : decode cX7_days 24 = .ok (.iload_n 1, 1) := by decide +kernel
theorem dX7_days_25 : decode cX7_days 25 = .ok (.iadd, 1) := by decide +kernel
theorem dX7_days_26 : decode cX7_days 26 = .ok (.ldc 140, 2) := by decide +kernel
theorem dX7_days_28 : decode cX7_days 28 = .ok (.if_icmp .le 9, 3) := by decide +kernel
theorem dX7_days_31 : decode cX7_days 31 = .ok (.aload_n 0, 1) := by decide +kernel
theorem dX7_days_32 : decode cX7_days 32 = .ok (.iconst 4, 1) := by decide +kernel
theorem dX7_days_33 : decode cX7_days 33 = .ok (.invokevirtual 106, 3) := by decide +kernel
theorem dX7_days_36 : decode cX7_days 36 = .ok (.ireturn, 1) := by decide +kernel
theorem dX7_days_37 : decode cX7_days 37 = .ok (.aload_n 0, 1) := by decide +kernel
theorem dX7_days_38 : decode cX7_days 38 = .ok (.invokevirtual 120, 3) := by decide +kernel
theorem dX7_days_41 : decode cX7_days 41 = .ok (.aload_n 0, 1) := by decide +kernel
theorem dX7_days_42 : decode cX7_days 42 = .ok (.aload_n 0, 1) := by decide +kernel
theorem dX7_days_43 : decode cX7_days 43 = .ok (.getfield 7, 3) := by decide +kernel
theorem dX7_days_46 : decode cX7_days 46 = .ok (.bipush 6, 2) := by decide +kernel
theorem dX7_days_48 : decode cX7_days 48 = .ok (.iaload, 1) := by decide +kernel
theorem dX7_days_49 : decode cX7_days 49 = .ok (.invokevirtual 141, 3) := by decide +kernel
theorem dX7_days_52 : decode cX7_days 52 = .ok (.aload_n 0, 1) := by decide +kernel
theorem dX7_days_53 : decode cX7_days 53 = .ok (.getfield 7, 3) := by decide +kernel
theorem dX7_days_56 : decode cX7_days 56 = .ok (.bipush 6, 2) := by decide +kernel
theorem dX7_days_58 : decode cX7_days 58 = .ok (.aload_n 0, 1) := by decide +kernel
theorem dX7_days_59 : decode cX7_days 59 = .ok (.iload_n 1, 1) := by decide +kernel
theorem dX7_days_60 : decode cX7_days 60 = .ok (.invokevirtual 145, 3) := by decide +kernel
theorem dX7_days_63 : decode cX7_days 63 = .ok (.iastore, 1) := by decide +kernel
theorem dX7_days_64 : decode cX7_days 64 = .ok (.aload_n 0, 1) := by decide +kernel
theorem dX7_days_65 : decode cX7_days 65 = .ok (.getfield 7, 3) := by decide +kernel
theorem dX7_days_68 : decode cX7_days 68 = .ok (.iconst 1, 1) := by decide +kernel
theorem dX7_days_69 : decode cX7_days 69 = .ok (.dup2, 1) := by decide +kernel
theorem dX7_days_70 : decode cX7_days 70 = .ok (.iaload, 1) := by decide +kernel
theorem dX7_days_71 : decode cX7_days 71 = .ok (.iload_n 1, 1) := by decide +kernel
theorem dX7_days_72 : decode cX7_days 72 = .ok (.iadd, 1) := by decide +kernel
theorem dX7_days_73 : decode cX7_days 73 = .ok (.iastore, 1) := by decide +kernel
theorem dX7_days_74 : decode cX7_days 74 = .ok (.aload_n 0, 1) := by decide +kernel
theorem dX7_days_75 : decode cX7_days 75 = .ok (.getfield 7, 3) := by decide +kernel
theorem dX7_days_78 : decode cX7_days 78 = .ok (.bipush 6, 2) := by decide +kernel
theorem dX7_days_80 : decode cX7_days 80 = .ok (.iaload, 1) := by decide +kernel
theorem dX7_days_81 : decode cX7_days 81 = .ok (.invokestatic 148, 3) := by decide +kernel
theorem dX7_days_84 : decode cX7_days 84 = .ok (.ireturn, 1) := by decide +kernel
theorem dX7_unheard_0 : decode cX7_unheard 0 = .ok (.iconst 0, 1) := by decide +kernel
theorem dX7_unheard_1 : decode cX7_unheard 1 = .ok (.istore_n 1, 1) := by decide +kernel
theorem dX7_unheard_2 : decode cX7_unheard 2 = .ok (.iconst 0, 1) := by decide +kernel
theorem dX7_unheard_3 : decode cX7_unheard 3 = .ok (.istore_n 2, 1) := by decide +kernel
theorem dX7_unheard_4 : decode cX7_unheard 4 = .ok (.iload_n 2, 1) := by decide +kernel
theorem dX7_unheard_5 : decode cX7_unheard 5 = .ok (.aload_n 0, 1) := by decide +kernel
theorem dX7_unheard_6 : decode cX7_unheard 6 = .ok (.getfield 7, 3) := by decide +kernel
theorem dX7_unheard_9 : decode cX7_unheard 9 = .ok (.iconst 0, 1) := by decide +kernel
theorem dX7_unheard_10 : decode cX7_unheard 10 = .ok (.iaload, 1) := by decide +kernel
theorem dX7_unheard_11 : decode cX7_unheard 11 = .ok (.if_icmp .ge 66, 3) := by decide +kernel
theorem dX7_unheard_14 : decode cX7_unheard 14 = .ok (.iconst 0, 1) := by decide +kernel
theorem dX7_unheard_15 : decode cX7_unheard 15 = .ok (.istore_n 3, 1) := by decide +kernel
theorem dX7_unheard_16 : decode cX7_unheard 16 = .ok (.iconst 0, 1) := by decide +kernel
theorem dX7_unheard_17 : decode cX7_unheard 17 = .ok (.istore 4, 2) := by decide +kernel
theorem dX7_unheard_19 : decode cX7_unheard 19 = .ok (.iload 4, 2) := by decide +kernel
theorem dX7_unheard_21 : decode cX7_unheard 21 = .ok (.aload_n 0, 1) := by decide +kernel
theorem dX7_unheard_22 : decode cX7_unheard 22 = .ok (.getfield 7, 3) := by decide +kernel
theorem dX7_unheard_25 : decode cX7_unheard 25 = .ok (.iconst 0, 1) := by decide +kernel
theorem dX7_unheard_26 : decode cX7_unheard 26 = .ok (.iaload, 1) := by decide +kernel
theorem dX7_unheard_27 : decode cX7_unheard 27 = .ok (.if_icmp .ge 30, 3) := by decide +kernel
theorem dX7_unheard_30 : decode cX7_unheard 30 = .ok (.iload_n 3, 1) := by decide +kernel
theorem dX7_unheard_31 : decode cX7_unheard 31 = .ok (.ifCond .ne 14, 3) := by decide +kernel
theorem dX7_unheard_34 : decode cX7_unheard 34 = .ok (.aload_n 0, 1) := by decide +kernel
theorem dX7_unheard_35 : decode cX7_unheard 35 = .ok (.getfield 30, 3) := by decide +kernel
theorem dX7_unheard_38 : decode cX7_unheard 38 = .ok (.iload 4, 2) := by decide +kernel
theorem dX7_unheard_40 : decode cX7_unheard 40 = .ok (.iaload, 1) := by decide +kernel
theorem dX7_unheard_41 : decode cX7_unheard 41 = .ok (.iload_n 2, 1) := by decide +kernel
theorem dX7_unheard_42 : decode cX7_unheard 42 = .ok (.if_icmp .ne 7, 3) := by decide +kernel
theorem dX7_unheard_45 : decode cX7_unheard 45 = .ok (.iconst 1, 1) := by decide +kernel
theorem dX7_unheard_46 : decode cX7_unheard 46 = .ok (.goto 4, 3) := by decide +kernel
theorem dX7_unheard_49 : decode cX7_unheard 49 = .ok (.iconst 0, 1) := by decide +kernel
theorem dX7_unheard_50 : decode cX7_unheard 50 = .ok (.istore_n 3, 1) := by decide +kernel
theorem dX7_unheard_51 : decode cX7_unheard 51 = .ok (.iinc 4 1, 3) := by decide +kernel
theorem dX7_unheard_54 : decode cX7_unheard 54 = .ok (.goto (-35), 3) := by decide +kernel
theorem dX7_unheard_57 : decode cX7_unheard 57 = .ok (.iload_n 1, 1) := by decide +kernel
theorem dX7_unheard_58 : decode cX7_unheard 58 = .ok (.iload_n 3, 1) := by decide +kernel
theorem dX7_unheard_59 : decode cX7_unheard 59 = .ok (.ifCond .eq 7, 3) := by decide +kernel
theorem dX7_unheard_62 : decode cX7_unheard 62 = .ok (.iconst 0, 1) := by decide +kernel
theorem dX7_unheard_63 : decode cX7_unheard 63 = .ok (.goto 6, 3) := by decide +kernel
theorem dX7_unheard_66 : decode cX7_unheard 66 = .ok (.iconst 1, 1) := by decide +kernel
theorem dX7_unheard_67 : decode cX7_unheard 67 = .ok (.iload_n 2, 1) := by decide +kernel
theorem dX7_unheard_68 : decode cX7_unheard 68 = .ok (.ishl, 1) := by decide +kernel
theorem dX7_unheard_69 : decode cX7_unheard 69 = .ok (.ior, 1) := by decide +kernel
theorem dX7_unheard_70 : decode cX7_unheard 70 = .ok (.istore_n 1, 1) := by decide +kernel
theorem dX7_unheard_71 : decode cX7_unheard 71 = .ok (.iinc 2 1, 3) := by decide +kernel
theorem dX7_unheard_74 : decode cX7_unheard 74 = .ok (.goto (-70), 3) := by decide +kernel
theorem dX7_unheard_77 : decode cX7_unheard 77 = .ok (.iload_n 1, 1) := by decide +kernel
theorem dX7_unheard_78 : decode cX7_unheard 78 = .ok (.ireturn, 1) := by decide +kernel
set_option maxRecDepth 20000 in
theorem ggX7_now_X7_in : GoodIn wsX7_now wsX7_in := goodIn_r _ [6] (by decide +kernel) (by decide +kernel)
set_option maxRecDepth 20000 in
theorem gX7_now_X7_in : GoodIn wsX7_now (va_wsS RX7 58 yX7_in wsX7_in) := goodIn_app (goodIn_of _ (by decide +kernel)) ggX7_now_X7_in
set_option maxRecDepth 20000 in
theorem ggX7_now_X7_finds : GoodIn wsX7_now wsX7_finds := goodIn_r _ [10, 11, 12, 62, 63, 64, 65, 66, 67, 68, 69, 70, 71, 72, 73, 74, 75, 76, 77, 78, 79, 80, 81, 82, 83, 84, 85, 86, 87, 88, 89] (by decide +kernel) (by decide +kernel)
set_option maxRecDepth 20000 in
theorem gX7_now_X7_finds : GoodIn wsX7_now (wsV RX7 106 RX7 yX7_finds wsX7_finds) := goodIn_app (goodIn_of _ (by decide +kernel)) ggX7_now_X7_finds
set_option maxRecDepth 20000 in
theorem ggX7_now_X7_listen : GoodIn wsX7_now wsX7_listen := goodIn_r _ [16, 2, 17, 18, 19, 20, 21, 5, 22, 23, 24, 25, 26, 27, 28, 29, 30, 31, 32, 33, 34, 35, 36, 37, 38, 39, 40, 41, 42, 62, 63, 64, 65, 66, 67, 68, 69, 70, 71, 72, 73, 74, 75, 76, 77, 78, 79, 80, 81, 82, 83, 84, 85, 86, 87, 88, 89] (by decide +kernel) (by decide +kernel)
set_option maxRecDepth 20000 in
theorem gX7_now_X7_listen : GoodIn wsX7_now (wsV RX7 120 RX7 yX7_listen wsX7_listen) := goodIn_app (goodIn_of _ (by decide +kernel)) ggX7_now_X7_listen
set_option maxRecDepth 20000 in
theorem ggX7_now_X7_isPaired : GoodIn wsX7_now wsX7_isPaired := goodIn_r _ [46, 18, 62, 63, 64, 65, 66, 67, 68, 69, 70, 71, 72, 73, 74, 75, 76, 77, 78, 79, 80, 81, 82, 83, 84, 85, 86, 87, 88, 89] (by decide +kernel) (by decide +kernel)
set_option maxRecDepth 20000 in
theorem gX7_now_X7_isPaired : GoodIn wsX7_now (wsV RX7 96 RX7 yX7_isPaired wsX7_isPaired) := goodIn_app (goodIn_of _ (by decide +kernel)) ggX7_now_X7_isPaired
set_option maxRecDepth 20000 in
theorem ggX7_now_X7_lineOf : GoodIn wsX7_now wsX7_lineOf := goodIn_r _ [50, 18, 43, 44, 45, 5, 46, 62, 63, 64, 65, 66, 67, 68, 69, 70, 71, 72, 73, 74, 75, 76, 77, 78, 79, 80, 81, 82, 83, 84, 85, 86, 87, 88, 89] (by decide +kernel) (by decide +kernel)
set_option maxRecDepth 20000 in
theorem gX7_now_X7_lineOf : GoodIn wsX7_now (wsV RX7 126 RX7 yX7_lineOf wsX7_lineOf) := goodIn_app (goodIn_of _ (by decide +kernel)) ggX7_now_X7_lineOf
set_option maxRecDepth 20000 in
theorem ggX7_now_X7_ones : GoodIn wsX7_now wsX7_ones := goodIn_r _ [53] (by decide +kernel) (by decide +kernel)
set_option maxRecDepth 20000 in
theorem gX7_now_X7_ones : GoodIn wsX7_now (va_wsS RX7 148 yX7_ones wsX7_ones) := goodIn_app (goodIn_of _ (by decide +kernel)) ggX7_now_X7_ones
set_option maxRecDepth 20000 in
theorem ggX7_now_X7_pairs : GoodIn wsX7_now wsX7_pairs := goodIn_r _ [57, 2, 18, 43, 44, 45, 5, 46, 62, 63, 64, 65, 66, 67, 68, 69, 70, 71, 72, 73, 74, 75, 76, 77, 78, 79, 80, 81, 82, 83, 84, 85, 86, 87, 88, 89] (by decide +kernel) (by decide +kernel)
set_option maxRecDepth 20000 in
theorem gX7_now_X7_pairs : GoodIn wsX7_now (wsV RX7 151 RX7 yX7_pairs wsX7_pairs) := goodIn_app (goodIn_of _ (by decide +kernel)) ggX7_now_X7_pairs
set_option maxRecDepth 20000 in
theorem ggX7_now_X7_unheard : GoodIn wsX7_now wsX7_unheard := goodIn_r _ [61, 2, 18, 62, 63, 64, 65, 66, 67, 68, 69, 70, 71, 72, 73, 74, 75, 76, 77, 78, 79, 80, 81, 82, 83, 84, 85, 86, 87, 88, 89] (by decide +kernel) (by decide +kernel)
set_option maxRecDepth 20000 in
theorem gX7_now_X7_unheard : GoodIn wsX7_now (wsV RX7 155 RX7 yX7_unheard wsX7_unheard) := goodIn_app (goodIn_of _ (by decide +kernel)) ggX7_now_X7_unheard
theorem dX7_now_0 : decode cX7_now 0 = .ok (.iload_n 1, 1) := by decide +kernel
theorem dX7_now_1 : decode cX7_now 1 = .ok (.i2l, 1) := by decide +kernel
theorem dX7_now_2 : decode cX7_now 2 = .ok (.lconst 0, 1) := by decide +kernel
theorem dX7_now_3 : decode cX7_now 3 = .ok (.ldc2_w 100, 3) := by decide +kernel
theorem dX7_now_6 : decode cX7_now 6 = .ok (.invokestatic 58, 3) := by decide +kernel
theorem dX7_now_9 : decode cX7_now 9 = .ok (.ifCond .ne 9, 3) := by decide +kernel
theorem dX7_now_12 : decode cX7_now 12 = .ok (.aload_n 0, 1) := by decide +kernel
theorem dX7_now_13 : decode cX7_now 13 = .ok (.iconst 0, 1) := by decide +kernel
theorem dX7_now_14 : decode cX7_now 14 = .ok (.invokevirtual 106, 3) := by decide +kernel
theorem dX7_now_17 : decode cX7_now 17 = .ok (.ireturn, 1) := by decide +kernel
theorem dX7_now_18 : decode cX7_now 18 = .ok (.aload_n 0, 1) := by decide +kernel
theorem dX7_now_19 : decode cX7_now 19 = .ok (.invokevirtual 120, 3) := by decide +kernel
theorem dX7_now_22 : decode cX7_now 22 = .ok (.iconst 0, 1) := by decide +kernel
theorem dX7_now_23 : decode cX7_now 23 = .ok (.istore_n 2, 1) := by decide +kernel
theorem dX7_now_24 : decode cX7_now 24 = .ok (.iconst (-1), 1) := by decide +kernel
theorem dX7_now_25 : decode cX7_now 25 = .ok (.istore_n 3, 1) := by decide +kernel
theorem dX7_now_26 : decode cX7_now 26 = .ok (.iconst 0, 1) := by decide +kernel
theorem dX7_now_27 : decode cX7_now 27 = .ok (.istore 4, 2) := by decide +kernel
theorem dX7_now_29 : decode cX7_now 29 = .ok (.iload 4, 2) := by decide +kernel
theorem dX7_now_31 : decode cX7_now 31 = .ok (.aload_n 0, 1) := by decide +kernel
theorem dX7_now_32 : decode cX7_now 32 = .ok (.getfield 7, 3) := by decide +kernel
theorem dX7_now_35 : decode cX7_now 35 = .ok (.iconst 0, 1) := by decide +kernel
theorem dX7_now_36 : decode cX7_now 36 = .ok (.iaload, 1) := by decide +kernel
theorem dX7_now_37 : decode cX7_now 37 = .ok (.if_icmp .ge 50, 3) := by decide +kernel
theorem dX7_now_40 : decode cX7_now 40 = .ok (.iload_n 2, 1) := by decide +kernel
theorem dX7_now_41 : decode cX7_now 41 = .ok (.aload_n 0, 1) := by decide +kernel
theorem dX7_now_42 : decode cX7_now 42 = .ok (.iload 4, 2) := by decide +kernel
theorem dX7_now_44 : decode cX7_now 44 = .ok (.invokevirtual 96, 3) := by decide +kernel
theorem dX7_now_47 : decode cX7_now 47 = .ok (.ifCond .eq 10, 3) := by decide +kernel
theorem dX7_now_50 : decode cX7_now 50 = .ok (.iconst 1, 1) := by decide +kernel
theorem dX7_now_51 : decode cX7_now 51 = .ok (.iload 4, 2) := by decide +kernel
theorem dX7_now_53 : decode cX7_now 53 = .ok (.ishl, 1) := by decide +kernel
theorem dX7_now_54 : decode cX7_now 54 = .ok (.goto 4, 3) := by decide +kernel
theorem dX7_now_57 : decode cX7_now 57 = .ok (.iconst 0, 1) := by decide +kernel
theorem dX7_now_58 : decode cX7_now 58 = .ok (.ior, 1) := by decide +kernel
theorem dX7_now_59 : decode cX7_now 59 = .ok (.istore_n 2, 1) := by decide +kernel
theorem dX7_now_60 : decode cX7_now 60 = .ok (.aload_n 0, 1) := by decide +kernel
theorem dX7_now_61 : decode cX7_now 61 = .ok (.iload 4, 2) := by decide +kernel
theorem dX7_now_63 : decode cX7_now 63 = .ok (.invokevirtual 126, 3) := by decide +kernel
theorem dX7_now_66 : decode cX7_now 66 = .ok (.iload_n 3, 1) := by decide +kernel
theorem dX7_now_67 : decode cX7_now 67 = .ok (.if_icmp .le 12, 3) := by decide +kernel
theorem dX7_now_70 : decode cX7_now 70 = .ok (.aload_n 0, 1) := by decide +kernel
theorem dX7_now_71 : decode cX7_now 71 = .ok (.iload 4, 2) := by decide +kernel
theorem dX7_now_73 : decode cX7_now 73 = .ok (.invokevirtual 126, 3) := by decide +kernel
theorem dX7_now_76 : decode cX7_now 76 = .ok (.goto 4, 3) := by decide +kernel
theorem dX7_now_79 : decode cX7_now 79 = .ok (.iload_n 3, 1) := by decide +kernel
theorem dX7_now_80 : decode cX7_now 80 = .ok (.istore_n 3, 1) := by decide +kernel
theorem dX7_now_81 : decode cX7_now 81 = .ok (.iinc 4 1, 3) := by decide +kernel
theorem dX7_now_84 : decode cX7_now 84 = .ok (.goto (-55), 3) := by decide +kernel
theorem dX7_now_87 : decode cX7_now 87 = .ok (.iload_n 1, 1) := by decide +kernel
theorem dX7_now_88 : decode cX7_now 88 = .ok (.tableswitch 78 0 5 #[40, 47, 55, 66, 71, 73], 40) := by decide +kernel
theorem dX7_now_128 : decode cX7_now 128 = .ok (.aload_n 0, 1) := by decide +kernel
theorem dX7_now_129 : decode cX7_now 129 = .ok (.getfield 7, 3) := by decide +kernel
theorem dX7_now_132 : decode cX7_now 132 = .ok (.iconst 1, 1) := by decide +kernel
theorem dX7_now_133 : decode cX7_now 133 = .ok (.iaload, 1) := by decide +kernel
theorem dX7_now_134 : decode cX7_now 134 = .ok (.ireturn, 1) := by decide +kernel
theorem dX7_now_135 : decode cX7_now 135 = .ok (.aload_n 0, 1) := by decide +kernel
theorem dX7_now_136 : decode cX7_now 136 = .ok (.getfield 7, 3) := by decide +kernel
theorem dX7_now_139 : decode cX7_now 139 = .ok (.bipush 6, 2) := by decide +kernel
theorem dX7_now_141 : decode cX7_now 141 = .ok (.iaload, 1) := by decide +kernel
theorem dX7_now_142 : decode cX7_now 142 = .ok (.ireturn, 1) := by decide +kernel
theorem dX7_now_143 : decode cX7_now 143 = .ok (.aload_n 0, 1) := by decide +kernel
theorem dX7_now_144 : decode cX7_now 144 = .ok (.getfield 7, 3) := by decide +kernel
theorem dX7_now_147 : decode cX7_now 147 = .ok (.bipush 6, 2) := by decide +kernel
theorem dX7_now_149 : decode cX7_now 149 = .ok (.iaload, 1) := by decide +kernel
theorem dX7_now_150 : decode cX7_now 150 = .ok (.invokestatic 148, 3) := by decide +kernel
theorem dX7_now_153 : decode cX7_now 153 = .ok (.ireturn, 1) := by decide +kernel
theorem dX7_now_154 : decode cX7_now 154 = .ok (.aload_n 0, 1) := by decide +kernel
theorem dX7_now_155 : decode cX7_now 155 = .ok (.invokevirtual 151, 3) := by decide +kernel
theorem dX7_now_158 : decode cX7_now 158 = .ok (.ireturn, 1) := by decide +kernel
theorem dX7_now_159 : decode cX7_now 159 = .ok (.iload_n 2, 1) := by decide +kernel
theorem dX7_now_160 : decode cX7_now 160 = .ok (.ireturn, 1) := by decide +kernel
theorem dX7_now_161 : decode cX7_now 161 = .ok (.aload_n 0, 1) := by decide +kernel
theorem dX7_now_162 : decode cX7_now 162 = .ok (.invokevirtual 155, 3) := by decide +kernel
theorem dX7_now_165 : decode cX7_now 165 = .ok (.ireturn, 1) := by decide +kernel
theorem dX7_now_166 : decode cX7_now 166 = .ok (.iload_n 3, 1) := by decide +kernel
theorem dX7_now_167 : decode cX7_now 167 = .ok (.ireturn, 1) := by decide +kernel
set_option maxRecDepth 20000 in
theorem ggX7_saying_X7_in : GoodIn wsX7_saying wsX7_in := goodIn_r _ [6] (by decide +kernel) (by decide +kernel)
set_option maxRecDepth 20000 in
theorem gX7_saying_X7_in : GoodIn wsX7_saying (va_wsS RX7 58 yX7_in wsX7_in) := goodIn_app (goodIn_of _ (by decide +kernel)) ggX7_saying_X7_in
set_option maxRecDepth 20000 in
theorem ggX7_saying_X7_finds : GoodIn wsX7_saying wsX7_finds := goodIn_r _ [10, 11, 12, 63, 64, 65, 66, 67, 68, 69, 70, 71, 72, 73, 74, 75, 76, 77, 78, 79, 80, 81, 82, 83, 84, 85, 86, 87, 88, 89, 90] (by decide +kernel) (by decide +kernel)
set_option maxRecDepth 20000 in
theorem gX7_saying_X7_finds : GoodIn wsX7_saying (wsV RX7 106 RX7 yX7_finds wsX7_finds) := goodIn_app (goodIn_of _ (by decide +kernel)) ggX7_saying_X7_finds
set_option maxRecDepth 20000 in
theorem ggX7_saying_X7_listen : GoodIn wsX7_saying wsX7_listen := goodIn_r _ [16, 2, 17, 18, 19, 20, 21, 5, 22, 23, 24, 25, 26, 27, 28, 29, 30, 31, 32, 33, 34, 35, 36, 37, 38, 39, 40, 41, 42, 63, 64, 65, 66, 67, 68, 69, 70, 71, 72, 73, 74, 75, 76, 77, 78, 79, 80, 81, 82, 83, 84, 85, 86, 87, 88, 89, 90] (by decide +kernel) (by decide +kernel)
set_option maxRecDepth 20000 in
theorem gX7_saying_X7_listen : GoodIn wsX7_saying (wsV RX7 120 RX7 yX7_listen wsX7_listen) := goodIn_app (goodIn_of _ (by decide +kernel)) ggX7_saying_X7_listen
set_option maxRecDepth 20000 in
theorem ggX7_saying_X7_goThrough : GoodIn wsX7_saying wsX7_goThrough := goodIn_r _ [46, 47, 48, 49, 50, 51, 52, 53, 5, 54, 2, 55, 56, 57, 58, 18, 17, 19, 20, 21, 22, 63, 64, 65, 66, 67, 68, 69, 70, 71, 72, 73, 74, 75, 76, 77, 78, 79, 80, 81, 82, 83, 84, 85, 86, 87, 88, 89, 90] (by decide +kernel) (by decide +kernel)
set_option maxRecDepth 20000 in
theorem gX7_saying_X7_goThrough : GoodIn wsX7_saying (wsV RX7 141 RX7 yX7_goThrough wsX7_goThrough) := goodIn_app (goodIn_of _ (by decide +kernel)) ggX7_saying_X7_goThrough
set_option maxRecDepth 20000 in
theorem ggX7_saying_X7_saidBehind : GoodIn wsX7_saying wsX7_saidBehind := goodIn_r _ [62, 49, 48, 50, 63, 64, 65, 66, 67, 68, 69, 70, 71, 72, 73, 74, 75, 76, 77, 78, 79, 80, 81, 82, 83, 84, 85, 86, 87, 88, 89, 90] (by decide +kernel) (by decide +kernel)
set_option maxRecDepth 20000 in
theorem gX7_saying_X7_saidBehind : GoodIn wsX7_saying (wsV RX7 145 RX7 yX7_saidBehind wsX7_saidBehind) := goodIn_app (goodIn_of _ (by decide +kernel)) ggX7_saying_X7_saidBehind
theorem dX7_saying_0 : decode cX7_saying 0 = .ok (.iload_n 1, 1) := by decide +kernel
theorem dX7_saying_1 : decode cX7_saying 1 = .ok (.i2l, 1) := by decide +kernel
theorem dX7_saying_2 : decode cX7_saying 2 = .ok (.lconst 0, 1) := by decide +kernel
theorem dX7_saying_3 : decode cX7_saying 3 = .ok (.ldc2_w 158, 3) := by decide +kernel
theorem dX7_saying_6 : decode cX7_saying 6 = .ok (.invokestatic 58, 3) := by decide +kernel
theorem dX7_saying_9 : decode cX7_saying 9 = .ok (.ifCond .ne 9, 3) := by decide +kernel
theorem dX7_saying_12 : decode cX7_saying 12 = .ok (.aload_n 0, 1) := by decide +kernel
theorem dX7_saying_13 : decode cX7_saying 13 = .ok (.iconst 0, 1) := by decide +kernel
theorem dX7_saying_14 : decode cX7_saying 14 = .ok (.invokevirtual 106, 3) := by decide +kernel
theorem dX7_saying_17 : decode cX7_saying 17 = .ok (.ireturn, 1) := by decide +kernel
theorem dX7_saying_18 : decode cX7_saying 18 = .ok (.aload_n 0, 1) := by decide +kernel
theorem dX7_saying_19 : decode cX7_saying 19 = .ok (.invokevirtual 120, 3) := by decide +kernel
theorem dX7_saying_22 : decode cX7_saying 22 = .ok (.aload_n 0, 1) := by decide +kernel
theorem dX7_saying_23 : decode cX7_saying 23 = .ok (.aload_n 0, 1) := by decide +kernel
theorem dX7_saying_24 : decode cX7_saying 24 = .ok (.getfield 7, 3) := by decide +kernel
theorem dX7_saying_27 : decode cX7_saying 27 = .ok (.bipush 6, 2) := by decide +kernel
theorem dX7_saying_29 : decode cX7_saying 29 = .ok (.iaload, 1) := by decide +kernel
theorem dX7_saying_30 : decode cX7_saying 30 = .ok (.invokevirtual 141, 3) := by decide +kernel
theorem dX7_saying_33 : decode cX7_saying 33 = .ok (.aload_n 0, 1) := by decide +kernel
theorem dX7_saying_34 : decode cX7_saying 34 = .ok (.iload_n 1, 1) := by decide +kernel
theorem dX7_saying_35 : decode cX7_saying 35 = .ok (.invokevirtual 145, 3) := by decide +kernel
theorem dX7_saying_38 : decode cX7_saying 38 = .ok (.ireturn, 1) := by decide +kernel
set_option maxRecDepth 20000 in
theorem ggX7_says_X7_isTent : GoodIn wsX7_says wsX7_isTent := goodIn_r _ [6, 7, 8, 9, 5, 10, 71, 72, 73, 74, 75, 76, 77, 78, 79, 80, 81, 82, 83, 84, 85, 86, 87, 88, 89, 90, 91, 92, 93, 94, 95, 96, 97, 98] (by decide +kernel) (by decide +kernel)
set_option maxRecDepth 20000 in
theorem gX7_says_X7_isTent : GoodIn wsX7_says (wsV RX7 115 RX7 yX7_isTent wsX7_isTent) := goodIn_app (goodIn_of _ (by decide +kernel)) ggX7_says_X7_isTent
set_option maxRecDepth 20000 in
theorem ggX7_says_X7_in : GoodIn wsX7_says wsX7_in := goodIn_r _ [10] (by decide +kernel) (by decide +kernel)
set_option maxRecDepth 20000 in
theorem gX7_says_X7_in : GoodIn wsX7_says (va_wsS RX7 58 yX7_in wsX7_in) := goodIn_app (goodIn_of _ (by decide +kernel)) ggX7_says_X7_in
set_option maxRecDepth 20000 in
theorem ggX7_says_X7_finds : GoodIn wsX7_says wsX7_finds := goodIn_r _ [14, 15, 16, 71, 72, 73, 74, 75, 76, 77, 78, 79, 80, 81, 82, 83, 84, 85, 86, 87, 88, 89, 90, 91, 92, 93, 94, 95, 96, 97, 98] (by decide +kernel) (by decide +kernel)
set_option maxRecDepth 20000 in
theorem gX7_says_X7_finds : GoodIn wsX7_says (wsV RX7 106 RX7 yX7_finds wsX7_finds) := goodIn_app (goodIn_of _ (by decide +kernel)) ggX7_says_X7_finds
set_option maxRecDepth 20000 in
theorem ggX7_says_X7_saying : GoodIn wsX7_says wsX7_saying := goodIn_r _ [20, 1, 7, 8, 9, 5, 10, 11, 12, 13, 14, 15, 16, 21, 22, 23, 24, 25, 26, 27, 28, 29, 30, 31, 32, 33, 34, 35, 36, 37, 38, 39, 40, 41, 42, 43, 44, 45, 46, 47, 48, 49, 50, 51, 52, 53, 54, 55, 56, 57, 58, 59, 60, 61, 62, 63, 64, 65, 66, 67, 68, 69, 70, 71, 72, 73, 74, 75, 76, 77, 78, 79, 80, 81, 82, 83, 84, 85, 86, 87, 88, 89, 90, 91, 92, 93, 94, 95, 96, 97, 98] (by decide +kernel) (by decide +kernel)
set_option maxRecDepth 20000 in
theorem gX7_says_X7_saying : GoodIn wsX7_says (wsV RX7 160 RX7 yX7_saying wsX7_saying) := goodIn_app (goodIn_of _ (by decide +kernel)) ggX7_says_X7_saying
theorem dX7_says_0 : decode cX7_says 0 = .ok (.aload_n 0, 1) := by decide +kernel
theorem dX7_says_1 : decode cX7_says 1 = .ok (.iload_n 1, 1) := by decide +kernel
theorem dX7_says_2 : decode cX7_says 2 = .ok (.invokevirtual 115, 3) := by decide +kernel
theorem dX7_says_5 : decode cX7_says 5 = .ok (.ifCond .eq 15, 3) := by decide +kernel
theorem dX7_says_8 : decode cX7_says 8 = .ok (.iload_n 2, 1) := by decide +kernel
theorem dX7_says_9 : decode cX7_says 9 = .ok (.i2l, 1) := by decide +kernel
theorem dX7_says_10 : decode cX7_says 10 = .ok (.lconst 0, 1) := by decide +kernel
theorem dX7_says_11 : decode cX7_says 11 = .ok (.ldc2_w 158, 3) := by decide +kernel
theorem dX7_says_14 : decode cX7_says 14 = .ok (.invokestatic 58, 3) := by decide +kernel
theorem dX7_says_17 : decode cX7_says 17 = .ok (.ifCond .ne 11, 3) := by decide +kernel
theorem dX7_says_20 : decode cX7_says 20 = .ok (.aload_n 0, 1) := by decide +kernel
theorem dX7_says_21 : decode cX7_says 21 = .ok (.iconst 0, 1) := by decide +kernel
theorem dX7_says_22 : decode cX7_says 22 = .ok (.invokevirtual 106, 3) := by decide +kernel
theorem dX7_says_25 : decode cX7_says 25 = .ok (.goto 12, 3) := by decide +kernel
theorem dX7_says_28 : decode cX7_says 28 = .ok (.aload_n 0, 1) := by decide +kernel
theorem dX7_says_29 : decode cX7_says 29 = .ok (.iload_n 2, 1) := by decide +kernel
theorem dX7_says_30 : decode cX7_says 30 = .ok (.invokevirtual 160, 3) := by decide +kernel
theorem dX7_says_33 : decode cX7_says 33 = .ok (.iload_n 1, 1) := by decide +kernel
theorem dX7_says_34 : decode cX7_says 34 = .ok (.ishr, 1) := by decide +kernel
theorem dX7_says_35 : decode cX7_says 35 = .ok (.iconst 1, 1) := by decide +kernel
theorem dX7_says_36 : decode cX7_says 36 = .ok (.iand, 1) := by decide +kernel
theorem dX7_says_37 : decode cX7_says 37 = .ok (.ireturn, 1) := by decide +kernel
set_option maxRecDepth 20000 in
theorem ggX7_settles_X7_listen : GoodIn wsX7_settles wsX7_listen := goodIn_r _ [7, 1, 8, 9, 10, 11, 12, 6, 13, 14, 15, 16, 17, 18, 19, 20, 21, 22, 23, 24, 25, 26, 27, 28, 29, 30, 31, 32, 33, 49, 50, 51, 52, 53, 54, 55, 56, 57, 58, 59, 60, 61, 62, 63, 64, 65, 66, 67, 68, 69, 70, 71, 72, 73, 74, 75, 76] (by decide +kernel) (by decide +kernel)
set_option maxRecDepth 20000 in
theorem gX7_settles_X7_listen : GoodIn wsX7_settles (wsV RX7 120 RX7 yX7_listen wsX7_listen) := goodIn_app (goodIn_of _ (by decide +kernel)) ggX7_settles_X7_listen
set_option maxRecDepth 20000 in
theorem ggX7_settles_X7_goThrough : GoodIn wsX7_settles wsX7_goThrough := goodIn_r _ [37, 38, 39, 2, 40, 41, 42, 43, 6, 44, 1, 45, 46, 47, 48, 9, 8, 10, 11, 12, 13, 49, 50, 51, 52, 53, 54, 55, 56, 57, 58, 59, 60, 61, 62, 63, 64, 65, 66, 67, 68, 69, 70, 71, 72, 73, 74, 75, 76] (by decide +kernel) (by decide +kernel)
set_option maxRecDepth 20000 in
theorem gX7_settles_X7_goThrough : GoodIn wsX7_settles (wsV RX7 141 RX7 yX7_goThrough wsX7_goThrough) := goodIn_app (goodIn_of _ (by decide +kernel)) ggX7_settles_X7_goThrough
theorem dX7_settles_0 : decode cX7_settles 0 = .ok (.aload_n 0, 1) := by decide +kernel
theorem dX7_settles_1 : decode cX7_settles 1 = .ok (.invokevirtual 120, 3) := by decide +kernel
theorem dX7_settles_4 : decode cX7_settles 4 = .ok (.aload_n 0, 1) := by decide +kernel
theorem dX7_settles_5 : decode cX7_settles 5 = .ok (.aload_n 0, 1) := by decide +kernel
theorem dX7_settles_6 : decode cX7_settles 6 = .ok (.getfield 7, 3) := by decide +kernel
theorem dX7_settles_9 : decode cX7_settles 9 = .ok (.bipush 6, 2) := by decide +kernel
theorem dX7_settles_11 : decode cX7_settles 11 = .ok (.iaload, 1) := by decide +kernel
theorem dX7_settles_12 : decode cX7_settles 12 = .ok (.invokevirtual 141, 3) := by decide +kernel
theorem dX7_settles_15 : decode cX7_settles 15 = .ok (.aload_n 0, 1) := by decide +kernel
theorem dX7_settles_16 : decode cX7_settles 16 = .ok (.getfield 90, 3) := by decide +kernel
theorem dX7_settles_19 : decode cX7_settles 19 = .ok (.ireturn, 1) := by decide +kernel
set_option maxRecDepth 20000 in
theorem ggX7_circle_X7_listen : GoodIn wsX7_circle wsX7_listen := goodIn_r _ [7, 1, 8, 9, 10, 11, 12, 6, 13, 14, 15, 16, 17, 18, 19, 20, 21, 22, 23, 24, 25, 26, 27, 28, 29, 30, 31, 32, 33, 49, 50, 51, 52, 53, 54, 55, 56, 57, 58, 59, 60, 61, 62, 63, 64, 65, 66, 67, 68, 69, 70, 71, 72, 73, 74, 75, 76] (by decide +kernel) (by decide +kernel)
set_option maxRecDepth 20000 in
theorem gX7_circle_X7_listen : GoodIn wsX7_circle (wsV RX7 120 RX7 yX7_listen wsX7_listen) := goodIn_app (goodIn_of _ (by decide +kernel)) ggX7_circle_X7_listen
set_option maxRecDepth 20000 in
theorem ggX7_circle_X7_goThrough : GoodIn wsX7_circle wsX7_goThrough := goodIn_r _ [37, 38, 39, 40, 2, 41, 42, 43, 6, 44, 1, 45, 46, 47, 48, 9, 8, 10, 11, 12, 13, 49, 50, 51, 52, 53, 54, 55, 56, 57, 58, 59, 60, 61, 62, 63, 64, 65, 66, 67, 68, 69, 70, 71, 72, 73, 74, 75, 76] (by decide +kernel) (by decide +kernel)
set_option maxRecDepth 20000 in
theorem gX7_circle_X7_goThrough : GoodIn wsX7_circle (wsV RX7 141 RX7 yX7_goThrough wsX7_goThrough) := goodIn_app (goodIn_of _ (by decide +kernel)) ggX7_circle_X7_goThrough
theorem dX7_circle_0 : decode cX7_circle 0 = .ok (.aload_n 0, 1) := by decide +kernel
theorem dX7_circle_1 : decode cX7_circle 1 = .ok (.invokevirtual 120, 3) := by decide +kernel
theorem dX7_circle_4 : decode cX7_circle 4 = .ok (.aload_n 0, 1) := by decide +kernel
theorem dX7_circle_5 : decode cX7_circle 5 = .ok (.aload_n 0, 1) := by decide +kernel
theorem dX7_circle_6 : decode cX7_circle 6 = .ok (.getfield 7, 3) := by decide +kernel
theorem dX7_circle_9 : decode cX7_circle 9 = .ok (.bipush 6, 2) := by decide +kernel
theorem dX7_circle_11 : decode cX7_circle 11 = .ok (.iaload, 1) := by decide +kernel
theorem dX7_circle_12 : decode cX7_circle 12 = .ok (.invokevirtual 141, 3) := by decide +kernel
theorem dX7_circle_15 : decode cX7_circle 15 = .ok (.aload_n 0, 1) := by decide +kernel
theorem dX7_circle_16 : decode cX7_circle 16 = .ok (.getfield 93, 3) := by decide +kernel
theorem dX7_circle_19 : decode cX7_circle 19 = .ok (.ireturn, 1) := by decide +kernel
set_option maxRecDepth 20000 in
theorem ggX7_mind_X7_listen : GoodIn wsX7_mind wsX7_listen := goodIn_r _ [9, 1, 10, 11, 12, 13, 14, 8, 15, 16, 17, 18, 19, 20, 21, 22, 23, 24, 25, 26, 27, 28, 29, 30, 31, 32, 33, 34, 35, 55, 56, 57, 58, 59, 60, 61, 62, 63, 64, 65, 66, 67, 68, 69, 70, 71, 72, 73, 74, 75, 76, 77, 78, 79, 80, 81, 82] (by decide +kernel) (by decide +kernel)
set_option maxRecDepth 20000 in
theorem gX7_mind_X7_listen : GoodIn wsX7_mind (wsV RX7 120 RX7 yX7_listen wsX7_listen) := goodIn_app (goodIn_of _ (by decide +kernel)) ggX7_mind_X7_listen
set_option maxRecDepth 20000 in
theorem ggX7_mind_X7_goThrough : GoodIn wsX7_mind wsX7_goThrough := goodIn_r _ [39, 40, 4, 2, 3, 41, 42, 43, 8, 44, 1, 45, 46, 47, 48, 11, 10, 12, 13, 14, 15, 55, 56, 57, 58, 59, 60, 61, 62, 63, 64, 65, 66, 67, 68, 69, 70, 71, 72, 73, 74, 75, 76, 77, 78, 79, 80, 81, 82] (by decide +kernel) (by decide +kernel)
set_option maxRecDepth 20000 in
theorem gX7_mind_X7_goThrough : GoodIn wsX7_mind (wsV RX7 141 RX7 yX7_goThrough wsX7_goThrough) := goodIn_app (goodIn_of _ (by decide +kernel)) ggX7_mind_X7_goThrough
set_option maxRecDepth 20000 in
theorem ggX7_mind_X7_finds : GoodIn wsX7_mind wsX7_finds := goodIn_r _ [52, 53, 54, 55, 56, 57, 58, 59, 60, 61, 62, 63, 64, 65, 66, 67, 68, 69, 70, 71, 72, 73, 74, 75, 76, 77, 78, 79, 80, 81, 82] (by decide +kernel) (by decide +kernel)
set_option maxRecDepth 20000 in
theorem gX7_mind_X7_finds : GoodIn wsX7_mind (wsV RX7 106 RX7 yX7_finds wsX7_finds) := goodIn_app (goodIn_of _ (by decide +kernel)) ggX7_mind_X7_finds
theorem dX7_mind_0 : decode cX7_mind 0 = .ok (.aload_n 0, 1) := by decide +kernel
theorem dX7_mind_1 : decode cX7_mind 1 = .ok (.invokevirtual 120, 3) := by decide +kernel
theorem dX7_mind_4 : decode cX7_mind 4 = .ok (.aload_n 0, 1) := by decide +kernel
theorem dX7_mind_5 : decode cX7_mind 5 = .ok (.aload_n 0, 1) := by decide +kernel
theorem dX7_mind_6 : decode cX7_mind 6 = .ok (.getfield 7, 3) := by decide +kernel
theorem dX7_mind_9 : decode cX7_mind 9 = .ok (.bipush 6, 2) := by decide +kernel
theorem dX7_mind_11 : decode cX7_mind 11 = .ok (.iaload, 1) := by decide +kernel
theorem dX7_mind_12 : decode cX7_mind 12 = .ok (.invokevirtual 141, 3) := by decide +kernel
theorem dX7_mind_15 : decode cX7_mind 15 = .ok (.iconst 1, 1) := by decide +kernel
theorem dX7_mind_16 : decode cX7_mind 16 = .ok (.aload_n 0, 1) := by decide +kernel
theorem dX7_mind_17 : decode cX7_mind 17 = .ok (.getfield 7, 3) := by decide +kernel
theorem dX7_mind_20 : decode cX7_mind 20 = .ok (.iconst 0, 1) := by decide +kernel
theorem dX7_mind_21 : decode cX7_mind 21 = .ok (.iaload, 1) := by decide +kernel
theorem dX7_mind_22 : decode cX7_mind 22 = .ok (.ishl, 1) := by decide +kernel
theorem dX7_mind_23 : decode cX7_mind 23 = .ok (.iconst 1, 1) := by decide +kernel
theorem dX7_mind_24 : decode cX7_mind 24 = .ok (.isub, 1) := by decide +kernel
theorem dX7_mind_25 : decode cX7_mind 25 = .ok (.istore_n 1, 1) := by decide +kernel
theorem dX7_mind_26 : decode cX7_mind 26 = .ok (.aload_n 0, 1) := by decide +kernel
theorem dX7_mind_27 : decode cX7_mind 27 = .ok (.getfield 90, 3) := by decide +kernel
theorem dX7_mind_30 : decode cX7_mind 30 = .ok (.aload_n 0, 1) := by decide +kernel
theorem dX7_mind_31 : decode cX7_mind 31 = .ok (.getfield 93, 3) := by decide +kernel
theorem dX7_mind_34 : decode cX7_mind 34 = .ok (.iadd, 1) := by decide +kernel
theorem dX7_mind_35 : decode cX7_mind 35 = .ok (.istore_n 2, 1) := by decide +kernel
theorem dX7_mind_36 : decode cX7_mind 36 = .ok (.iload_n 2, 1) := by decide +kernel
theorem dX7_mind_37 : decode cX7_mind 37 = .ok (.ifCond .le 32, 3) := by decide +kernel
theorem dX7_mind_40 : decode cX7_mind 40 = .ok (.aload_n 0, 1) := by decide +kernel
theorem dX7_mind_41 : decode cX7_mind 41 = .ok (.getfield 39, 3) := by decide +kernel
theorem dX7_mind_44 : decode cX7_mind 44 = .ok (.iload_n 2, 1) := by decide +kernel
theorem dX7_mind_45 : decode cX7_mind 45 = .ok (.iconst 1, 1) := by decide +kernel
theorem dX7_mind_46 : decode cX7_mind 46 = .ok (.isub, 1) := by decide +kernel
theorem dX7_mind_47 : decode cX7_mind 47 = .ok (.iaload, 1) := by decide +kernel
theorem dX7_mind_48 : decode cX7_mind 48 = .ok (.ifCond .eq 15, 3) := by decide +kernel
theorem dX7_mind_51 : decode cX7_mind 51 = .ok (.aload_n 0, 1) := by decide +kernel
theorem dX7_mind_52 : decode cX7_mind 52 = .ok (.getfield 39, 3) := by decide +kernel
theorem dX7_mind_55 : decode cX7_mind 55 = .ok (.iload_n 2, 1) := by decide +kernel
theorem dX7_mind_56 : decode cX7_mind 56 = .ok (.iconst 1, 1) := by decide +kernel
theorem dX7_mind_57 : decode cX7_mind 57 = .ok (.isub, 1) := by decide +kernel
theorem dX7_mind_58 : decode cX7_mind 58 = .ok (.iaload, 1) := by decide +kernel
theorem dX7_mind_59 : decode cX7_mind 59 = .ok (.iload_n 1, 1) := by decide +kernel
theorem dX7_mind_60 : decode cX7_mind 60 = .ok (.if_icmp .ne 9, 3) := by decide +kernel
theorem dX7_mind_63 : decode cX7_mind 63 = .ok (.iinc 2 (-1), 3) := by decide +kernel
theorem dX7_mind_66 : decode cX7_mind 66 = .ok (.goto (-30), 3) := by decide +kernel
theorem dX7_mind_69 : decode cX7_mind 69 = .ok (.aload_n 0, 1) := by decide +kernel
theorem dX7_mind_70 : decode cX7_mind 70 = .ok (.getfield 7, 3) := by decide +kernel
theorem dX7_mind_73 : decode cX7_mind 73 = .ok (.iconst 0, 1) := by decide +kernel
theorem dX7_mind_74 : decode cX7_mind 74 = .ok (.iaload, 1) := by decide +kernel
theorem dX7_mind_75 : decode cX7_mind 75 = .ok (.ifCond .eq 11, 3) := by decide +kernel
theorem dX7_mind_78 : decode cX7_mind 78 = .ok (.iload_n 2, 1) := by decide +kernel
theorem dX7_mind_79 : decode cX7_mind 79 = .ok (.aload_n 0, 1) := by decide +kernel
theorem dX7_mind_80 : decode cX7_mind 80 = .ok (.getfield 90, 3) := by decide +kernel
theorem dX7_mind_83 : decode cX7_mind 83 = .ok (.if_icmp .le 11, 3) := by decide +kernel
theorem dX7_mind_86 : decode cX7_mind 86 = .ok (.aload_n 0, 1) := by decide +kernel
theorem dX7_mind_87 : decode cX7_mind 87 = .ok (.iconst 3, 1) := by decide +kernel
theorem dX7_mind_88 : decode cX7_mind 88 = .ok (.invokevirtual 106, 3) := by decide +kernel
theorem dX7_mind_91 : decode cX7_mind 91 = .ok (.goto 4, 3) := by decide +kernel
theorem dX7_mind_94 : decode cX7_mind 94 = .ok (.iload_n 2, 1) := by decide +kernel
theorem dX7_mind_95 : decode cX7_mind 95 = .ok (.ireturn, 1) := by decide +kernel
set_option maxRecDepth 20000 in
theorem ggX7_isMore_X7_listen : GoodIn wsX7_isMore wsX7_listen := goodIn_r _ [6, 1, 7, 8, 9, 10, 11, 5, 12, 13, 14, 15, 16, 17, 18, 19, 20, 21, 22, 23, 24, 25, 26, 27, 28, 29, 30, 31, 32, 48, 49, 50, 51, 52, 53, 54, 55, 56, 57, 58, 59, 60, 61, 62, 63, 64, 65, 66, 67, 68, 69, 70, 71, 72, 73, 74, 75] (by decide +kernel) (by decide +kernel)
set_option maxRecDepth 20000 in
theorem gX7_isMore_X7_listen : GoodIn wsX7_isMore (wsV RX7 120 RX7 yX7_listen wsX7_listen) := goodIn_app (goodIn_of _ (by decide +kernel)) ggX7_isMore_X7_listen
set_option maxRecDepth 20000 in
theorem ggX7_isMore_X7_ahead : GoodIn wsX7_isMore wsX7_ahead := goodIn_r _ [36, 37, 38, 39, 5, 40, 1, 41, 42, 43, 44, 8, 7, 9, 10, 11, 12, 48, 49, 50, 51, 52, 53, 54, 55, 56, 57, 58, 59, 60, 61, 62, 63, 64, 65, 66, 67, 68, 69, 70, 71, 72, 73, 74, 75] (by decide +kernel) (by decide +kernel)
set_option maxRecDepth 20000 in
theorem gX7_isMore_X7_ahead : GoodIn wsX7_isMore (wsV RX7 163 RX7 yX7_ahead wsX7_ahead) := goodIn_app (goodIn_of _ (by decide +kernel)) ggX7_isMore_X7_ahead
set_option maxRecDepth 20000 in
theorem ggX7_isMore_X7_ones : GoodIn wsX7_isMore wsX7_ones := goodIn_r _ [47] (by decide +kernel) (by decide +kernel)
set_option maxRecDepth 20000 in
theorem gX7_isMore_X7_ones : GoodIn wsX7_isMore (va_wsS RX7 148 yX7_ones wsX7_ones) := goodIn_app (goodIn_of _ (by decide +kernel)) ggX7_isMore_X7_ones
theorem dX7_isMore_0 : decode cX7_isMore 0 = .ok (.aload_n 0, 1) := by decide +kernel
theorem dX7_isMore_1 : decode cX7_isMore 1 = .ok (.invokevirtual 120, 3) := by decide +kernel
theorem dX7_isMore_4 : decode cX7_isMore 4 = .ok (.iconst 2, 1) := by decide +kernel
theorem dX7_isMore_5 : decode cX7_isMore 5 = .ok (.aload_n 0, 1) := by decide +kernel
theorem dX7_isMore_6 : decode cX7_isMore 6 = .ok (.aload_n 0, 1) := by decide +kernel
theorem dX7_isMore_7 : decode cX7_isMore 7 = .ok (.getfield 7, 3) := by decide +kernel
theorem dX7_isMore_10 : decode cX7_isMore 10 = .ok (.bipush 6, 2) := by decide +kernel
theorem dX7_isMore_12 : decode cX7_isMore 12 = .ok (.iaload, 1) := by decide +kernel
theorem dX7_isMore_13 : decode cX7_isMore 13 = .ok (.iload_n 1, 1) := by decide +kernel
theorem dX7_isMore_14 : decode cX7_isMore 14 = .ok (.invokevirtual 163, 3) := by decide +kernel
theorem dX7_isMore_17 : decode cX7_isMore 17 = .ok (.invokestatic 148, 3) := by decide +kernel
theorem dX7_isMore_20 : decode cX7_isMore 20 = .ok (.imul, 1) := by decide +kernel
theorem dX7_isMore_21 : decode cX7_isMore 21 = .ok (.aload_n 0, 1) := by decide +kernel
theorem dX7_isMore_22 : decode cX7_isMore 22 = .ok (.getfield 7, 3) := by decide +kernel
theorem dX7_isMore_25 : decode cX7_isMore 25 = .ok (.iconst 0, 1) := by decide +kernel
theorem dX7_isMore_26 : decode cX7_isMore 26 = .ok (.iaload, 1) := by decide +kernel
theorem dX7_isMore_27 : decode cX7_isMore 27 = .ok (.if_icmp .le 7, 3) := by decide +kernel
theorem dX7_isMore_30 : decode cX7_isMore 30 = .ok (.iconst 1, 1) := by decide +kernel
theorem dX7_isMore_31 : decode cX7_isMore 31 = .ok (.goto 4, 3) := by decide +kernel
theorem dX7_isMore_34 : decode cX7_isMore 34 = .ok (.iconst 0, 1) := by decide +kernel
theorem dX7_isMore_35 : decode cX7_isMore 35 = .ok (.ireturn, 1) := by decide +kernel
set_option maxRecDepth 20000 in
theorem ggX7_findLeast_X7_yard : GoodIn wsX7_findLeast wsX7_yard := goodIn_r _ [8, 3, 58, 59, 60, 61, 62, 63, 64, 65, 66, 67, 68, 69, 70, 71, 72, 73, 74, 75, 76, 77, 78, 79, 80, 81, 82, 83, 84, 85] (by decide +kernel) (by decide +kernel)
set_option maxRecDepth 20000 in
theorem gX7_findLeast_X7_yard : GoodIn wsX7_findLeast (wsV RX7 64 RX7 yX7_yard wsX7_yard) := goodIn_app (goodIn_of _ (by decide +kernel)) ggX7_findLeast_X7_yard
set_option maxRecDepth 20000 in
theorem ggX7_findLeast_X7_farOf : GoodIn wsX7_findLeast wsX7_farOf := goodIn_r _ [12, 3, 13, 14, 7, 15, 58, 59, 60, 61, 62, 63, 64, 65, 66, 67, 68, 69, 70, 71, 72, 73, 74, 75, 76, 77, 78, 79, 80, 81, 82, 83, 84, 85] (by decide +kernel) (by decide +kernel)
set_option maxRecDepth 20000 in
theorem gX7_findLeast_X7_farOf : GoodIn wsX7_findLeast (wsV RX7 71 RX7 yX7_farOf wsX7_farOf) := goodIn_app (goodIn_of _ (by decide +kernel)) ggX7_findLeast_X7_farOf
set_option maxRecDepth 20000 in
theorem ggX7_findLeast_X7_whoIs : GoodIn wsX7_findLeast wsX7_whoIs := goodIn_r _ [19, 3, 4, 5, 6, 7, 8, 58, 59, 60, 61, 62, 63, 64, 65, 66, 67, 68, 69, 70, 71, 72, 73, 74, 75, 76, 77, 78, 79, 80, 81, 82, 83, 84, 85] (by decide +kernel) (by decide +kernel)
set_option maxRecDepth 20000 in
theorem gX7_findLeast_X7_whoIs : GoodIn wsX7_findLeast (wsV RX7 109 RX7 yX7_whoIs wsX7_whoIs) := goodIn_app (goodIn_of _ (by decide +kernel)) ggX7_findLeast_X7_whoIs
set_option maxRecDepth 20000 in
theorem ggX7_findLeast_X7_isMore : GoodIn wsX7_findLeast wsX7_isMore := goodIn_r _ [23, 3, 24, 25, 26, 7, 27, 28, 29, 30, 31, 32, 33, 34, 35, 36, 37, 38, 4, 5, 6, 8, 9, 10, 11, 12, 13, 14, 15, 39, 40, 41, 42, 43, 44, 45, 46, 47, 48, 49, 50, 51, 52, 53, 54, 55, 56, 57, 58, 59, 60, 61, 62, 63, 64, 65, 66, 67, 68, 69, 70, 71, 72, 73, 74, 75, 76, 77, 78, 79, 80, 81, 82, 83, 84, 85] (by decide +kernel) (by decide +kernel)
set_option maxRecDepth 20000 in
theorem gX7_findLeast_X7_isMore : GoodIn wsX7_findLeast (wsV RX7 172 RX7 yX7_isMore wsX7_isMore) := goodIn_app (goodIn_of _ (by decide +kernel)) ggX7_findLeast_X7_isMore
theorem dX7_findLeast_0 : decode cX7_findLeast 0 = .ok (.aload_n 0, 1) := by decide +kernel
theorem dX7_findLeast_1 : decode cX7_findLeast 1 = .ok (.iconst (-1), 1) := by decide +kernel
theorem dX7_findLeast_2 : decode cX7_findLeast 2 = .ok (.putfield 166, 3) := by decide +kernel
theorem dX7_findLeast_5 : decode cX7_findLeast 5 = .ok (.aload_n 0, 1) := by decide +kernel
theorem dX7_findLeast_6 : decode cX7_findLeast 6 = .ok (.iconst 0, 1) := by decide +kernel
theorem dX7_findLeast_7 : decode cX7_findLeast 7 = .ok (.putfield 169, 3) := by decide +kernel
theorem dX7_findLeast_10 : decode cX7_findLeast 10 = .ok (.iconst 0, 1) := by decide +kernel
theorem dX7_findLeast_11 : decode cX7_findLeast 11 = .ok (.istore_n 2, 1) := by decide +kernel
theorem dX7_findLeast_12 : decode cX7_findLeast 12 = .ok (.iload_n 2, 1) := by decide +kernel
theorem dX7_findLeast_13 : decode cX7_findLeast 13 = .ok (.aload_n 0, 1) := by decide +kernel
theorem dX7_findLeast_14 : decode cX7_findLeast 14 = .ok (.getfield 7, 3) := by decide +kernel
theorem dX7_findLeast_17 : decode cX7_findLeast 17 = .ok (.iconst 0, 1) := by decide +kernel
theorem dX7_findLeast_18 : decode cX7_findLeast 18 = .ok (.iaload, 1) := by decide +kernel
theorem dX7_findLeast_19 : decode cX7_findLeast 19 = .ok (.if_icmp .ge 129, 3) := by decide +kernel
theorem dX7_findLeast_22 : decode cX7_findLeast 22 = .ok (.aload_n 0, 1) := by decide +kernel
theorem dX7_findLeast_23 : decode cX7_findLeast 23 = .ok (.iload_n 2, 1) := by decide +kernel
theorem dX7_findLeast_24 : decode cX7_findLeast 24 = .ok (.invokevirtual 64, 3) := by decide +kernel
theorem dX7_findLeast_27 : decode cX7_findLeast 27 = .ok (.istore_n 3, 1) := by decide +kernel
theorem dX7_findLeast_28 : decode cX7_findLeast 28 = .ok (.iconst 0, 1) := by decide +kernel
theorem dX7_findLeast_29 : decode cX7_findLeast 29 = .ok (.istore 4, 2) := by decide +kernel
theorem dX7_findLeast_31 : decode cX7_findLeast 31 = .ok (.iload 4, 2) := by decide +kernel
theorem dX7_findLeast_33 : decode cX7_findLeast 33 = .ok (.sipush 144, 3) := by decide +kernel
theorem dX7_findLeast_36 : decode cX7_findLeast 36 = .ok (.if_icmp .ge 106, 3) := by decide +kernel
theorem dX7_findLeast_39 : decode cX7_findLeast 39 = .ok (.aload_n 0, 1) := by decide +kernel
theorem dX7_findLeast_40 : decode cX7_findLeast 40 = .ok (.iload_n 3, 1) := by decide +kernel
theorem dX7_findLeast_41 : decode cX7_findLeast 41 = .ok (.iload 4, 2) := by decide +kernel
theorem dX7_findLeast_43 : decode cX7_findLeast 43 = .ok (.invokevirtual 71, 3) := by decide +kernel
theorem dX7_findLeast_46 : decode cX7_findLeast 46 = .ok (.istore 5, 2) := by decide +kernel
theorem dX7_findLeast_48 : decode cX7_findLeast 48 = .ok (.aload_n 0, 1) := by decide +kernel
theorem dX7_findLeast_49 : decode cX7_findLeast 49 = .ok (.iload 4, 2) := by decide +kernel
theorem dX7_findLeast_51 : decode cX7_findLeast 51 = .ok (.invokevirtual 109, 3) := by decide +kernel
theorem dX7_findLeast_54 : decode cX7_findLeast 54 = .ok (.iconst (-1), 1) := by decide +kernel
theorem dX7_findLeast_55 : decode cX7_findLeast 55 = .ok (.if_icmp .ne 23, 3) := by decide +kernel
theorem dX7_findLeast_58 : decode cX7_findLeast 58 = .ok (.aload_n 0, 1) := by decide +kernel
theorem dX7_findLeast_59 : decode cX7_findLeast 59 = .ok (.getfield 166, 3) := by decide +kernel
theorem dX7_findLeast_62 : decode cX7_findLeast 62 = .ok (.ifCond .lt 12, 3) := by decide +kernel
theorem dX7_findLeast_65 : decode cX7_findLeast 65 = .ok (.iload 5, 2) := by decide +kernel
theorem dX7_findLeast_67 : decode cX7_findLeast 67 = .ok (.aload_n 0, 1) := by decide +kernel
theorem dX7_findLeast_68 : decode cX7_findLeast 68 = .ok (.getfield 166, 3) := by decide +kernel
theorem dX7_findLeast_71 : decode cX7_findLeast 71 = .ok (.if_icmp .ge 7, 3) := by decide +kernel
theorem dX7_findLeast_74 : decode cX7_findLeast 74 = .ok (.iconst 1, 1) := by decide +kernel
theorem dX7_findLeast_75 : decode cX7_findLeast 75 = .ok (.goto 4, 3) := by decide +kernel
theorem dX7_findLeast_78 : decode cX7_findLeast 78 = .ok (.iconst 0, 1) := by decide +kernel
theorem dX7_findLeast_79 : decode cX7_findLeast 79 = .ok (.istore 6, 2) := by decide +kernel
theorem dX7_findLeast_81 : decode cX7_findLeast 81 = .ok (.iload 6, 2) := by decide +kernel
theorem dX7_findLeast_83 : decode cX7_findLeast 83 = .ok (.ifCond .ne 6, 3) := by decide +kernel
theorem dX7_findLeast_86 : decode cX7_findLeast 86 = .ok (.goto 50, 3) := by decide +kernel
theorem dX7_findLeast_89 : decode cX7_findLeast 89 = .ok (.aload_n 0, 1) := by decide +kernel
theorem dX7_findLeast_90 : decode cX7_findLeast 90 = .ok (.getfield 7, 3) := by decide +kernel
theorem dX7_findLeast_93 : decode cX7_findLeast 93 = .ok (.bipush 20, 2) := by decide +kernel
theorem dX7_findLeast_95 : decode cX7_findLeast 95 = .ok (.iload_n 2, 1) := by decide +kernel
theorem dX7_findLeast_96 : decode cX7_findLeast 96 = .ok (.iadd, 1) := by decide +kernel
theorem dX7_findLeast_97 : decode cX7_findLeast 97 = .ok (.iload 4, 2) := by decide +kernel
theorem dX7_findLeast_99 : decode cX7_findLeast 99 = .ok (.iastore, 1) := by decide +kernel
theorem dX7_findLeast_100 : decode cX7_findLeast 100 = .ok (.aload_n 0, 1) := by decide +kernel
theorem dX7_findLeast_101 : decode cX7_findLeast 101 = .ok (.iload_n 1, 1) := by decide +kernel
theorem dX7_findLeast_102 : decode cX7_findLeast 102 = .ok (.invokevirtual 172, 3) := by decide +kernel
theorem dX7_findLeast_105 : decode cX7_findLeast 105 = .ok (.ifCond .eq 21, 3) := by decide +kernel
theorem dX7_findLeast_108 : decode cX7_findLeast 108 = .ok (.aload_n 0, 1) := by decide +kernel
theorem dX7_findLeast_109 : decode cX7_findLeast 109 = .ok (.iload 5, 2) := by decide +kernel
theorem dX7_findLeast_111 : decode cX7_findLeast 111 = .ok (.putfield 166, 3) := by decide +kernel
theorem dX7_findLeast_114 : decode cX7_findLeast 114 = .ok (.aload_n 0, 1) := by decide +kernel
theorem dX7_findLeast_115 : decode cX7_findLeast 115 = .ok (.sipush 1000, 3) := by decide +kernel
theorem dX7_findLeast_118 : decode cX7_findLeast 118 = .ok (.iload_n 2, 1) := by decide +kernel
theorem dX7_findLeast_119 : decode cX7_findLeast 119 = .ok (.imul, 1) := by decide +kernel
theorem dX7_findLeast_120 : decode cX7_findLeast 120 = .ok (.iload 4, 2) := by decide +kernel
theorem dX7_findLeast_122 : decode cX7_findLeast 122 = .ok (.iadd, 1) := by decide +kernel
theorem dX7_findLeast_123 : decode cX7_findLeast 123 = .ok (.putfield 169, 3) := by decide +kernel
theorem dX7_findLeast_126 : decode cX7_findLeast 126 = .ok (.aload_n 0, 1) := by decide +kernel
theorem dX7_findLeast_127 : decode cX7_findLeast 127 = .ok (.getfield 7, 3) := by decide +kernel
theorem dX7_findLeast_130 : decode cX7_findLeast 130 = .ok (.bipush 20, 2) := by decide +kernel
theorem dX7_findLeast_132 : decode cX7_findLeast 132 = .ok (.iload_n 2, 1) := by decide +kernel
theorem dX7_findLeast_133 : decode cX7_findLeast 133 = .ok (.iadd, 1) := by decide +kernel
theorem dX7_findLeast_134 : decode cX7_findLeast 134 = .ok (.iload_n 3, 1) := by decide +kernel
theorem dX7_findLeast_135 : decode cX7_findLeast 135 = .ok (.iastore, 1) := by decide +kernel
theorem dX7_findLeast_136 : decode cX7_findLeast 136 = .ok (.iinc 4 1, 3) := by decide +kernel
theorem dX7_findLeast_139 : decode cX7_findLeast 139 = .ok (.goto (-108), 3) := by decide +kernel
theorem dX7_findLeast_142 : decode cX7_findLeast 142 = .ok (.iinc 2 1, 3) := by decide +kernel
theorem dX7_findLeast_145 : decode cX7_findLeast 145 = .ok (.goto (-133), 3) := by decide +kernel
theorem dX7_findLeast_148 : decode cX7_findLeast 148 = .ok (.return_, 1) := by decide +kernel
set_option maxRecDepth 20000 in
theorem ggX7_least_X7_in : GoodIn wsX7_least wsX7_in := goodIn_r _ [6] (by decide +kernel) (by decide +kernel)
set_option maxRecDepth 20000 in
theorem gX7_least_X7_in : GoodIn wsX7_least (va_wsS RX7 58 yX7_in wsX7_in) := goodIn_app (goodIn_of _ (by decide +kernel)) ggX7_least_X7_in
set_option maxRecDepth 20000 in
theorem ggX7_least_X7_finds : GoodIn wsX7_least wsX7_finds := goodIn_r _ [10, 11, 12, 72, 73, 74, 75, 76, 77, 78, 79, 80, 81, 82, 83, 84, 85, 86, 87, 88, 89, 90, 91, 92, 93, 94, 95, 96, 97, 98, 99] (by decide +kernel) (by decide +kernel)
set_option maxRecDepth 20000 in
theorem gX7_least_X7_finds : GoodIn wsX7_least (wsV RX7 106 RX7 yX7_finds wsX7_finds) := goodIn_app (goodIn_of _ (by decide +kernel)) ggX7_least_X7_finds
set_option maxRecDepth 20000 in
theorem ggX7_least_X7_isMore : GoodIn wsX7_least wsX7_isMore := goodIn_r _ [16, 17, 18, 19, 20, 5, 21, 22, 23, 24, 25, 26, 27, 28, 29, 30, 31, 32, 33, 34, 35, 36, 37, 38, 39, 40, 41, 42, 43, 44, 45, 46, 47, 48, 49, 50, 51, 52, 53, 54, 55, 56, 57, 58, 59, 60, 61, 62, 72, 73, 74, 75, 76, 77, 78, 79, 80, 81, 82, 83, 84, 85, 86, 87, 88, 89, 90, 91, 92, 93, 94, 95, 96, 97, 98, 99] (by decide +kernel) (by decide +kernel)
set_option maxRecDepth 20000 in
theorem gX7_least_X7_isMore : GoodIn wsX7_least (wsV RX7 172 RX7 yX7_isMore wsX7_isMore) := goodIn_app (goodIn_of _ (by decide +kernel)) ggX7_least_X7_isMore
set_option maxRecDepth 20000 in
theorem ggX7_least_X7_findLeast : GoodIn wsX7_least wsX7_findLeast := goodIn_r _ [66, 2, 67, 17, 33, 34, 35, 5, 36, 37, 38, 39, 40, 41, 42, 43, 68, 69, 70, 71, 13, 14, 15, 16, 18, 19, 20, 21, 22, 23, 24, 25, 26, 27, 28, 29, 30, 31, 32, 44, 45, 46, 47, 48, 49, 50, 51, 52, 53, 54, 55, 56, 57, 58, 59, 60, 61, 62, 72, 73, 74, 75, 76, 77, 78, 79, 80, 81, 82, 83, 84, 85, 86, 87, 88, 89, 90, 91, 92, 93, 94, 95, 96, 97, 98, 99] (by decide +kernel) (by decide +kernel)
set_option maxRecDepth 20000 in
theorem gX7_least_X7_findLeast : GoodIn wsX7_least (wsV RX7 177 RX7 yX7_findLeast wsX7_findLeast) := goodIn_app (goodIn_of _ (by decide +kernel)) ggX7_least_X7_findLeast
theorem dX7_least_0 : decode cX7_least 0 = .ok (.iload_n 1, 1) := by decide +kernel
theorem dX7_least_1 : decode cX7_least 1 = .ok (.i2l, 1) := by decide +kernel
theorem dX7_least_2 : decode cX7_least 2 = .ok (.lconst 1, 1) := by decide +kernel
theorem dX7_least_3 : decode cX7_least 3 = .ok (.ldc2_w 175, 3) := by decide +kernel
theorem dX7_least_6 : decode cX7_least 6 = .ok (.invokestatic 58, 3) := by decide +kernel
theorem dX7_least_9 : decode cX7_least 9 = .ok (.ifCond .ne 9, 3) := by decide +kernel
theorem dX7_least_12 : decode cX7_least 12 = .ok (.aload_n 0, 1) := by decide +kernel
theorem dX7_least_13 : decode cX7_least 13 = .ok (.iconst 0, 1) := by decide +kernel
theorem dX7_least_14 : decode cX7_least 14 = .ok (.invokevirtual 106, 3) := by decide +kernel
theorem dX7_least_17 : decode cX7_least 17 = .ok (.ireturn, 1) := by decide +kernel
theorem dX7_least_18 : decode cX7_least 18 = .ok (.aload_n 0, 1) := by decide +kernel
theorem dX7_least_19 : decode cX7_least 19 = .ok (.iload_n 1, 1) := by decide +kernel
theorem dX7_least_20 : decode cX7_least 20 = .ok (.invokevirtual 172, 3) := by decide +kernel
theorem dX7_least_23 : decode cX7_least 23 = .ok (.ifCond .eq 5, 3) := by decide +kernel
theorem dX7_least_26 : decode cX7_least 26 = .ok (.iconst 0, 1) := by decide +kernel
theorem dX7_least_27 : decode cX7_least 27 = .ok (.ireturn, 1) := by decide +kernel
theorem dX7_least_28 : decode cX7_least 28 = .ok (.aload_n 0, 1) := by decide +kernel
theorem dX7_least_29 : decode cX7_least 29 = .ok (.iload_n 1, 1) := by decide +kernel
theorem dX7_least_30 : decode cX7_least 30 = .ok (.invokevirtual 177, 3) := by decide +kernel
theorem dX7_least_33 : decode cX7_least 33 = .ok (.aload_n 0, 1) := by decide +kernel
theorem dX7_least_34 : decode cX7_least 34 = .ok (.getfield 166, 3) := by decide +kernel
theorem dX7_least_37 : decode cX7_least 37 = .ok (.ifCond .ge 11, 3) := by decide +kernel
theorem dX7_least_40 : decode cX7_least 40 = .ok (.aload_n 0, 1) := by decide +kernel
theorem dX7_least_41 : decode cX7_least 41 = .ok (.iconst 3, 1) := by decide +kernel
theorem dX7_least_42 : decode cX7_least 42 = .ok (.invokevirtual 106, 3) := by decide +kernel
theorem dX7_least_45 : decode cX7_least 45 = .ok (.goto 7, 3) := by decide +kernel
theorem dX7_least_48 : decode cX7_least 48 = .ok (.aload_n 0, 1) := by decide +kernel
theorem dX7_least_49 : decode cX7_least 49 = .ok (.getfield 166, 3) := by decide +kernel
theorem dX7_least_52 : decode cX7_least 52 = .ok (.ireturn, 1) := by decide +kernel
set_option maxRecDepth 20000 in
theorem ggX7_whom_X7_in : GoodIn wsX7_whom wsX7_in := goodIn_r _ [7] (by decide +kernel) (by decide +kernel)
set_option maxRecDepth 20000 in
theorem gX7_whom_X7_in : GoodIn wsX7_whom (va_wsS RX7 58 yX7_in wsX7_in) := goodIn_app (goodIn_of _ (by decide +kernel)) ggX7_whom_X7_in
set_option maxRecDepth 20000 in
theorem ggX7_whom_X7_finds : GoodIn wsX7_whom wsX7_finds := goodIn_r _ [11, 12, 13, 72, 73, 74, 75, 76, 77, 78, 79, 80, 81, 82, 83, 84, 85, 86, 87, 88, 89, 90, 91, 92, 93, 94, 95, 96, 97, 98, 99] (by decide +kernel) (by decide +kernel)
set_option maxRecDepth 20000 in
theorem gX7_whom_X7_finds : GoodIn wsX7_whom (wsV RX7 106 RX7 yX7_finds wsX7_finds) := goodIn_app (goodIn_of _ (by decide +kernel)) ggX7_whom_X7_finds
set_option maxRecDepth 20000 in
theorem ggX7_whom_X7_isMore : GoodIn wsX7_whom wsX7_isMore := goodIn_r _ [17, 18, 19, 20, 21, 6, 22, 23, 24, 25, 26, 27, 28, 29, 30, 31, 32, 33, 34, 35, 36, 37, 38, 39, 40, 41, 42, 43, 44, 45, 46, 47, 48, 49, 50, 51, 52, 53, 54, 55, 56, 57, 58, 59, 60, 61, 62, 63, 72, 73, 74, 75, 76, 77, 78, 79, 80, 81, 82, 83, 84, 85, 86, 87, 88, 89, 90, 91, 92, 93, 94, 95, 96, 97, 98, 99] (by decide +kernel) (by decide +kernel)
set_option maxRecDepth 20000 in
theorem gX7_whom_X7_isMore : GoodIn wsX7_whom (wsV RX7 172 RX7 yX7_isMore wsX7_isMore) := goodIn_app (goodIn_of _ (by decide +kernel)) ggX7_whom_X7_isMore
set_option maxRecDepth 20000 in
theorem ggX7_whom_X7_findLeast : GoodIn wsX7_whom wsX7_findLeast := goodIn_r _ [67, 2, 3, 18, 34, 35, 36, 6, 37, 38, 39, 40, 41, 42, 43, 44, 68, 69, 70, 71, 14, 15, 16, 17, 19, 20, 21, 22, 23, 24, 25, 26, 27, 28, 29, 30, 31, 32, 33, 45, 46, 47, 48, 49, 50, 51, 52, 53, 54, 55, 56, 57, 58, 59, 60, 61, 62, 63, 72, 73, 74, 75, 76, 77, 78, 79, 80, 81, 82, 83, 84, 85, 86, 87, 88, 89, 90, 91, 92, 93, 94, 95, 96, 97, 98, 99] (by decide +kernel) (by decide +kernel)
set_option maxRecDepth 20000 in
theorem gX7_whom_X7_findLeast : GoodIn wsX7_whom (wsV RX7 177 RX7 yX7_findLeast wsX7_findLeast) := goodIn_app (goodIn_of _ (by decide +kernel)) ggX7_whom_X7_findLeast
theorem dX7_whom_0 : decode cX7_whom 0 = .ok (.iload_n 1, 1) := by decide +kernel
theorem dX7_whom_1 : decode cX7_whom 1 = .ok (.i2l, 1) := by decide +kernel
theorem dX7_whom_2 : decode cX7_whom 2 = .ok (.lconst 1, 1) := by decide +kernel
theorem dX7_whom_3 : decode cX7_whom 3 = .ok (.ldc2_w 175, 3) := by decide +kernel
theorem dX7_whom_6 : decode cX7_whom 6 = .ok (.invokestatic 58, 3) := by decide +kernel
theorem dX7_whom_9 : decode cX7_whom 9 = .ok (.ifCond .ne 9, 3) := by decide +kernel
theorem dX7_whom_12 : decode cX7_whom 12 = .ok (.aload_n 0, 1) := by decide +kernel
theorem dX7_whom_13 : decode cX7_whom 13 = .ok (.iconst 0, 1) := by decide +kernel
theorem dX7_whom_14 : decode cX7_whom 14 = .ok (.invokevirtual 106, 3) := by decide +kernel
theorem dX7_whom_17 : decode cX7_whom 17 = .ok (.ireturn, 1) := by decide +kernel
theorem dX7_whom_18 : decode cX7_whom 18 = .ok (.aload_n 0, 1) := by decide +kernel
theorem dX7_whom_19 : decode cX7_whom 19 = .ok (.iload_n 1, 1) := by decide +kernel
theorem dX7_whom_20 : decode cX7_whom 20 = .ok (.invokevirtual 172, 3) := by decide +kernel
theorem dX7_whom_23 : decode cX7_whom 23 = .ok (.ifCond .eq 9, 3) := by decide +kernel
theorem dX7_whom_26 : decode cX7_whom 26 = .ok (.aload_n 0, 1) := by decide +kernel
theorem dX7_whom_27 : decode cX7_whom 27 = .ok (.iconst 3, 1) := by decide +kernel
theorem dX7_whom_28 : decode cX7_whom 28 = .ok (.invokevirtual 106, 3) := by decide +kernel
theorem dX7_whom_31 : decode cX7_whom 31 = .ok (.ireturn, 1) := by decide +kernel
theorem dX7_whom_32 : decode cX7_whom 32 = .ok (.aload_n 0, 1) := by decide +kernel
theorem dX7_whom_33 : decode cX7_whom 33 = .ok (.iload_n 1, 1) := by decide +kernel
theorem dX7_whom_34 : decode cX7_whom 34 = .ok (.invokevirtual 177, 3) := by decide +kernel
theorem dX7_whom_37 : decode cX7_whom 37 = .ok (.aload_n 0, 1) := by decide +kernel
theorem dX7_whom_38 : decode cX7_whom 38 = .ok (.getfield 166, 3) := by decide +kernel
theorem dX7_whom_41 : decode cX7_whom 41 = .ok (.ifCond .ge 11, 3) := by decide +kernel
theorem dX7_whom_44 : decode cX7_whom 44 = .ok (.aload_n 0, 1) := by decide +kernel
theorem dX7_whom_45 : decode cX7_whom 45 = .ok (.iconst 3, 1) := by decide +kernel
theorem dX7_whom_46 : decode cX7_whom 46 = .ok (.invokevirtual 106, 3) := by decide +kernel
theorem dX7_whom_49 : decode cX7_whom 49 = .ok (.goto 7, 3) := by decide +kernel
theorem dX7_whom_52 : decode cX7_whom 52 = .ok (.aload_n 0, 1) := by decide +kernel
theorem dX7_whom_53 : decode cX7_whom 53 = .ok (.getfield 169, 3) := by decide +kernel
theorem dX7_whom_56 : decode cX7_whom 56 = .ok (.ireturn, 1) := by decide +kernel
set_option maxRecDepth 20000 in
theorem ggX7_findPlace_X7_copies : GoodIn wsX7_findPlace wsX7_copies := goodIn_r _ [7] (by decide +kernel) (by decide +kernel)
set_option maxRecDepth 20000 in
theorem gX7_findPlace_X7_copies : GoodIn wsX7_findPlace (va_wsS RX7 183 yX7_copies wsX7_copies) := goodIn_app (goodIn_of _ (by decide +kernel)) ggX7_findPlace_X7_copies
set_option maxRecDepth 20000 in
theorem ggX7_findPlace_X7_comes : GoodIn wsX7_findPlace wsX7_comes := goodIn_r _ [11, 2, 53, 54, 55, 56, 57, 58, 59, 60, 61, 62, 63, 64, 65, 66, 67, 68, 69, 70, 71, 72, 73, 74, 75, 76, 77, 78, 79, 80] (by decide +kernel) (by decide +kernel)
set_option maxRecDepth 20000 in
theorem gX7_findPlace_X7_comes : GoodIn wsX7_findPlace (wsV RX7 112 RX7 yX7_comes wsX7_comes) := goodIn_app (goodIn_of _ (by decide +kernel)) ggX7_findPlace_X7_comes
set_option maxRecDepth 20000 in
theorem ggX7_findPlace_X7_whoIs : GoodIn wsX7_findPlace wsX7_whoIs := goodIn_r _ [15, 2, 16, 17, 18, 6, 19, 53, 54, 55, 56, 57, 58, 59, 60, 61, 62, 63, 64, 65, 66, 67, 68, 69, 70, 71, 72, 73, 74, 75, 76, 77, 78, 79, 80] (by decide +kernel) (by decide +kernel)
set_option maxRecDepth 20000 in
theorem gX7_findPlace_X7_whoIs : GoodIn wsX7_findPlace (wsV RX7 109 RX7 yX7_whoIs wsX7_whoIs) := goodIn_app (goodIn_of _ (by decide +kernel)) ggX7_findPlace_X7_whoIs
set_option maxRecDepth 20000 in
theorem ggX7_findPlace_X7_listen : GoodIn wsX7_findPlace wsX7_listen := goodIn_r _ [23, 2, 24, 25, 26, 27, 28, 6, 29, 30, 31, 32, 33, 34, 16, 17, 18, 19, 35, 36, 37, 38, 39, 40, 41, 42, 43, 44, 45, 53, 54, 55, 56, 57, 58, 59, 60, 61, 62, 63, 64, 65, 66, 67, 68, 69, 70, 71, 72, 73, 74, 75, 76, 77, 78, 79, 80] (by decide +kernel) (by decide +kernel)
set_option maxRecDepth 20000 in
theorem gX7_findPlace_X7_listen : GoodIn wsX7_findPlace (wsV RX7 120 RX7 yX7_listen wsX7_listen) := goodIn_app (goodIn_of _ (by decide +kernel)) ggX7_findPlace_X7_listen
set_option maxRecDepth 20000 in
theorem ggX7_findPlace_X7_followersOf : GoodIn wsX7_findPlace wsX7_followersOf := goodIn_r _ [49, 2, 25, 53, 54, 55, 56, 57, 58, 59, 60, 61, 62, 63, 64, 65, 66, 67, 68, 69, 70, 71, 72, 73, 74, 75, 76, 77, 78, 79, 80] (by decide +kernel) (by decide +kernel)
set_option maxRecDepth 20000 in
theorem gX7_findPlace_X7_followersOf : GoodIn wsX7_findPlace (wsV RX7 129 RX7 yX7_followersOf wsX7_followersOf) := goodIn_app (goodIn_of _ (by decide +kernel)) ggX7_findPlace_X7_followersOf
set_option maxRecDepth 20000 in
theorem ggX7_findPlace_X7_ones : GoodIn wsX7_findPlace wsX7_ones := goodIn_r _ [52] (by decide +kernel) (by decide +kernel)
set_option maxRecDepth 20000 in
theorem gX7_findPlace_X7_ones : GoodIn wsX7_findPlace (va_wsS RX7 148 yX7_ones wsX7_ones) := goodIn_app (goodIn_of _ (by decide +kernel)) ggX7_findPlace_X7_ones
theorem dX7_findPlace_0 : decode cX7_findPlace 0 = .ok (.iconst 0, 1) := by decide +kernel
theorem dX7_findPlace_1 : decode cX7_findPlace 1 = .ok (.istore_n 1, 1) := by decide +kernel
theorem dX7_findPlace_2 : decode cX7_findPlace 2 = .ok (.aload_n 0, 1) := by decide +kernel
theorem dX7_findPlace_3 : decode cX7_findPlace 3 = .ok (.iconst (-1), 1) := by decide +kernel
theorem dX7_findPlace_4 : decode cX7_findPlace 4 = .ok (.putfield 180, 3) := by decide +kernel
theorem dX7_findPlace_7 : decode cX7_findPlace 7 = .ok (.aload_n 0, 1) := by decide +kernel
theorem dX7_findPlace_8 : decode cX7_findPlace 8 = .ok (.getfield 7, 3) := by decide +kernel
theorem dX7_findPlace_11 : decode cX7_findPlace 11 = .ok (.aload_n 0, 1) := by decide +kernel
theorem dX7_findPlace_12 : decode cX7_findPlace 12 = .ok (.getfield 13, 3) := by decide +kernel
theorem dX7_findPlace_15 : decode cX7_findPlace 15 = .ok (.invokestatic 183, 3) := by decide +kernel
theorem dX7_findPlace_18 : decode cX7_findPlace 18 = .ok (.aload_n 0, 1) := by decide +kernel
theorem dX7_findPlace_19 : decode cX7_findPlace 19 = .ok (.iconst 0, 1) := by decide +kernel
theorem dX7_findPlace_20 : decode cX7_findPlace 20 = .ok (.iconst 0, 1) := by decide +kernel
theorem dX7_findPlace_21 : decode cX7_findPlace 21 = .ok (.invokevirtual 112, 3) := by decide +kernel
theorem dX7_findPlace_24 : decode cX7_findPlace 24 = .ok (.istore_n 2, 1) := by decide +kernel
theorem dX7_findPlace_25 : decode cX7_findPlace 25 = .ok (.iconst 0, 1) := by decide +kernel
theorem dX7_findPlace_26 : decode cX7_findPlace 26 = .ok (.istore_n 3, 1) := by decide +kernel
theorem dX7_findPlace_27 : decode cX7_findPlace 27 = .ok (.iload_n 3, 1) := by decide +kernel
theorem dX7_findPlace_28 : decode cX7_findPlace 28 = .ok (.sipush 144, 3) := by decide +kernel
theorem dX7_findPlace_31 : decode cX7_findPlace 31 = .ok (.if_icmp .ge 94, 3) := by decide +kernel
theorem dX7_findPlace_34 : decode cX7_findPlace 34 = .ok (.aload_n 0, 1) := by decide +kernel
theorem dX7_findPlace_35 : decode cX7_findPlace 35 = .ok (.getfield 7, 3) := by decide +kernel
theorem dX7_findPlace_38 : decode cX7_findPlace 38 = .ok (.bipush 20, 2) := by decide +kernel
theorem dX7_findPlace_40 : decode cX7_findPlace 40 = .ok (.iload_n 2, 1) := by decide +kernel
theorem dX7_findPlace_41 : decode cX7_findPlace 41 = .ok (.iadd, 1) := by decide +kernel
theorem dX7_findPlace_42 : decode cX7_findPlace 42 = .ok (.sipush 144, 3) := by decide +kernel
theorem dX7_findPlace_45 : decode cX7_findPlace 45 = .ok (.iastore, 1) := by decide +kernel
theorem dX7_findPlace_46 : decode cX7_findPlace 46 = .ok (.aload_n 0, 1) := by decide +kernel
theorem dX7_findPlace_47 : decode cX7_findPlace 47 = .ok (.iload_n 3, 1) := by decide +kernel
theorem dX7_findPlace_48 : decode cX7_findPlace 48 = .ok (.invokevirtual 109, 3) := by decide +kernel
theorem dX7_findPlace_51 : decode cX7_findPlace 51 = .ok (.iconst (-1), 1) := by decide +kernel
theorem dX7_findPlace_52 : decode cX7_findPlace 52 = .ok (.if_icmp .eq 6, 3) := by decide +kernel
theorem dX7_findPlace_55 : decode cX7_findPlace 55 = .ok (.goto 64, 3) := by decide +kernel
theorem dX7_findPlace_58 : decode cX7_findPlace 58 = .ok (.aload_n 0, 1) := by decide +kernel
theorem dX7_findPlace_59 : decode cX7_findPlace 59 = .ok (.getfield 7, 3) := by decide +kernel
theorem dX7_findPlace_62 : decode cX7_findPlace 62 = .ok (.bipush 20, 2) := by decide +kernel
theorem dX7_findPlace_64 : decode cX7_findPlace 64 = .ok (.iload_n 2, 1) := by decide +kernel
theorem dX7_findPlace_65 : decode cX7_findPlace 65 = .ok (.iadd, 1) := by decide +kernel
theorem dX7_findPlace_66 : decode cX7_findPlace 66 = .ok (.iload_n 3, 1) := by decide +kernel
theorem dX7_findPlace_67 : decode cX7_findPlace 67 = .ok (.iastore, 1) := by decide +kernel
theorem dX7_findPlace_68 : decode cX7_findPlace 68 = .ok (.aload_n 0, 1) := by decide +kernel
theorem dX7_findPlace_69 : decode cX7_findPlace 69 = .ok (.invokevirtual 120, 3) := by decide +kernel
theorem dX7_findPlace_72 : decode cX7_findPlace 72 = .ok (.aload_n 0, 1) := by decide +kernel
theorem dX7_findPlace_73 : decode cX7_findPlace 73 = .ok (.iload_n 2, 1) := by decide +kernel
theorem dX7_findPlace_74 : decode cX7_findPlace 74 = .ok (.invokevirtual 129, 3) := by decide +kernel
theorem dX7_findPlace_77 : decode cX7_findPlace 77 = .ok (.invokestatic 148, 3) := by decide +kernel
theorem dX7_findPlace_80 : decode cX7_findPlace 80 = .ok (.istore 4, 2) := by decide +kernel
theorem dX7_findPlace_82 : decode cX7_findPlace 82 = .ok (.iload 4, 2) := by decide +kernel
theorem dX7_findPlace_84 : decode cX7_findPlace 84 = .ok (.aload_n 0, 1) := by decide +kernel
theorem dX7_findPlace_85 : decode cX7_findPlace 85 = .ok (.getfield 180, 3) := by decide +kernel
theorem dX7_findPlace_88 : decode cX7_findPlace 88 = .ok (.if_icmp .le 7, 3) := by decide +kernel
theorem dX7_findPlace_91 : decode cX7_findPlace 91 = .ok (.iload_n 3, 1) := by decide +kernel
theorem dX7_findPlace_92 : decode cX7_findPlace 92 = .ok (.goto 4, 3) := by decide +kernel
theorem dX7_findPlace_95 : decode cX7_findPlace 95 = .ok (.iload_n 1, 1) := by decide +kernel
theorem dX7_findPlace_96 : decode cX7_findPlace 96 = .ok (.istore_n 1, 1) := by decide +kernel
theorem dX7_findPlace_97 : decode cX7_findPlace 97 = .ok (.aload_n 0, 1) := by decide +kernel
theorem dX7_findPlace_98 : decode cX7_findPlace 98 = .ok (.iload 4, 2) := by decide +kernel
theorem dX7_findPlace_100 : decode cX7_findPlace 100 = .ok (.aload_n 0, 1) := by decide +kernel
theorem dX7_findPlace_101 : decode cX7_findPlace 101 = .ok (.getfield 180, 3) := by decide +kernel
theorem dX7_findPlace_104 : decode cX7_findPlace 104 = .ok (.if_icmp .le 8, 3) := by decide +kernel
theorem dX7_findPlace_107 : decode cX7_findPlace 107 = .ok (.iload 4, 2) := by decide +kernel
theorem dX7_findPlace_109 : decode cX7_findPlace 109 = .ok (.goto 7, 3) := by decide +kernel
theorem dX7_findPlace_112 : decode cX7_findPlace 112 = .ok (.aload_n 0, 1) := by decide +kernel
theorem dX7_findPlace_113 : decode cX7_findPlace 113 = .ok (.getfield 180, 3) := by decide +kernel
theorem dX7_findPlace_116 : decode cX7_findPlace 116 = .ok (.putfield 180, 3) := by decide +kernel
theorem dX7_findPlace_119 : decode cX7_findPlace 119 = .ok (.iinc 3 1, 3) := by decide +kernel
theorem dX7_findPlace_122 : decode cX7_findPlace 122 = .ok (.goto (-95), 3) := by decide +kernel
theorem dX7_findPlace_125 : decode cX7_findPlace 125 = .ok (.aload_n 0, 1) := by decide +kernel
theorem dX7_findPlace_126 : decode cX7_findPlace 126 = .ok (.getfield 13, 3) := by decide +kernel
theorem dX7_findPlace_129 : decode cX7_findPlace 129 = .ok (.aload_n 0, 1) := by decide +kernel
theorem dX7_findPlace_130 : decode cX7_findPlace 130 = .ok (.getfield 7, 3) := by decide +kernel
theorem dX7_findPlace_133 : decode cX7_findPlace 133 = .ok (.invokestatic 183, 3) := by decide +kernel
theorem dX7_findPlace_136 : decode cX7_findPlace 136 = .ok (.iload_n 1, 1) := by decide +kernel
theorem dX7_findPlace_137 : decode cX7_findPlace 137 = .ok (.ireturn, 1) := by decide +kernel
set_option maxRecDepth 20000 in
theorem ggX7_place_X7_finds : GoodIn wsX7_place wsX7_finds := goodIn_r _ [6, 7, 8, 63, 64, 65, 66, 67, 68, 69, 70, 71, 72, 73, 74, 75, 76, 77, 78, 79, 80, 81, 82, 83, 84, 85, 86, 87, 88, 89, 90] (by decide +kernel) (by decide +kernel)
set_option maxRecDepth 20000 in
theorem gX7_place_X7_finds : GoodIn wsX7_place (wsV RX7 106 RX7 yX7_finds wsX7_finds) := goodIn_app (goodIn_of _ (by decide +kernel)) ggX7_place_X7_finds
set_option maxRecDepth 20000 in
theorem ggX7_place_X7_findPlace : GoodIn wsX7_place wsX7_findPlace := goodIn_r _ [12, 13, 1, 14, 15, 16, 5, 17, 18, 19, 20, 21, 22, 23, 24, 25, 26, 27, 28, 29, 30, 31, 32, 33, 34, 35, 36, 37, 38, 39, 40, 41, 42, 43, 44, 45, 46, 47, 48, 49, 50, 51, 52, 53, 54, 55, 56, 57, 58, 59, 60, 61, 62, 63, 64, 65, 66, 67, 68, 69, 70, 71, 72, 73, 74, 75, 76, 77, 78, 79, 80, 81, 82, 83, 84, 85, 86, 87, 88, 89, 90] (by decide +kernel) (by decide +kernel)
set_option maxRecDepth 20000 in
theorem gX7_place_X7_findPlace : GoodIn wsX7_place (wsV RX7 187 RX7 yX7_findPlace wsX7_findPlace) := goodIn_app (goodIn_of _ (by decide +kernel)) ggX7_place_X7_findPlace
theorem dX7_place_0 : decode cX7_place 0 = .ok (.aload_n 0, 1) := by decide +kernel
theorem dX7_place_1 : decode cX7_place 1 = .ok (.getfield 7, 3) := by decide +kernel
theorem dX7_place_4 : decode cX7_place 4 = .ok (.iconst 0, 1) := by decide +kernel
theorem dX7_place_5 : decode cX7_place 5 = .ok (.iaload, 1) := by decide +kernel
theorem dX7_place_6 : decode cX7_place 6 = .ok (.bipush 10, 2) := by decide +kernel
theorem dX7_place_8 : decode cX7_place 8 = .ok (.if_icmp .ne 11, 3) := by decide +kernel
theorem dX7_place_11 : decode cX7_place 11 = .ok (.aload_n 0, 1) := by decide +kernel
theorem dX7_place_12 : decode cX7_place 12 = .ok (.iconst 4, 1) := by decide +kernel
theorem dX7_place_13 : decode cX7_place 13 = .ok (.invokevirtual 106, 3) := by decide +kernel
theorem dX7_place_16 : decode cX7_place 16 = .ok (.goto 7, 3) := by decide +kernel
theorem dX7_place_19 : decode cX7_place 19 = .ok (.aload_n 0, 1) := by decide +kernel
theorem dX7_place_20 : decode cX7_place 20 = .ok (.invokevirtual 187, 3) := by decide +kernel
theorem dX7_place_23 : decode cX7_place 23 = .ok (.ireturn, 1) := by decide +kernel
set_option maxRecDepth 20000 in
theorem ggX7_leads_X7_finds : GoodIn wsX7_leads wsX7_finds := goodIn_r _ [7, 8, 9, 63, 64, 65, 66, 67, 68, 69, 70, 71, 72, 73, 74, 75, 76, 77, 78, 79, 80, 81, 82, 83, 84, 85, 86, 87, 88, 89, 90] (by decide +kernel) (by decide +kernel)
set_option maxRecDepth 20000 in
theorem gX7_leads_X7_finds : GoodIn wsX7_leads (wsV RX7 106 RX7 yX7_finds wsX7_finds) := goodIn_app (goodIn_of _ (by decide +kernel)) ggX7_leads_X7_finds
set_option maxRecDepth 20000 in
theorem ggX7_leads_X7_findPlace : GoodIn wsX7_leads wsX7_findPlace := goodIn_r _ [13, 2, 1, 14, 15, 16, 6, 17, 18, 19, 20, 21, 22, 23, 24, 25, 26, 27, 28, 29, 30, 31, 32, 33, 34, 35, 36, 37, 38, 39, 40, 41, 42, 43, 44, 45, 46, 47, 48, 49, 50, 51, 52, 53, 54, 55, 56, 57, 58, 59, 60, 61, 62, 63, 64, 65, 66, 67, 68, 69, 70, 71, 72, 73, 74, 75, 76, 77, 78, 79, 80, 81, 82, 83, 84, 85, 86, 87, 88, 89, 90] (by decide +kernel) (by decide +kernel)
set_option maxRecDepth 20000 in
theorem gX7_leads_X7_findPlace : GoodIn wsX7_leads (wsV RX7 187 RX7 yX7_findPlace wsX7_findPlace) := goodIn_app (goodIn_of _ (by decide +kernel)) ggX7_leads_X7_findPlace
theorem dX7_leads_0 : decode cX7_leads 0 = .ok (.aload_n 0, 1) := by decide +kernel
theorem dX7_leads_1 : decode cX7_leads 1 = .ok (.getfield 7, 3) := by decide +kernel
theorem dX7_leads_4 : decode cX7_leads 4 = .ok (.iconst 0, 1) := by decide +kernel
theorem dX7_leads_5 : decode cX7_leads 5 = .ok (.iaload, 1) := by decide +kernel
theorem dX7_leads_6 : decode cX7_leads 6 = .ok (.bipush 10, 2) := by decide +kernel
theorem dX7_leads_8 : decode cX7_leads 8 = .ok (.if_icmp .ne 9, 3) := by decide +kernel
theorem dX7_leads_11 : decode cX7_leads 11 = .ok (.aload_n 0, 1) := by decide +kernel
theorem dX7_leads_12 : decode cX7_leads 12 = .ok (.iconst 4, 1) := by decide +kernel
theorem dX7_leads_13 : decode cX7_leads 13 = .ok (.invokevirtual 106, 3) := by decide +kernel
theorem dX7_leads_16 : decode cX7_leads 16 = .ok (.ireturn, 1) := by decide +kernel
theorem dX7_leads_17 : decode cX7_leads 17 = .ok (.aload_n 0, 1) := by decide +kernel
theorem dX7_leads_18 : decode cX7_leads 18 = .ok (.invokevirtual 187, 3) := by decide +kernel
theorem dX7_leads_21 : decode cX7_leads 21 = .ok (.istore_n 1, 1) := by decide +kernel
theorem dX7_leads_22 : decode cX7_leads 22 = .ok (.aload_n 0, 1) := by decide +kernel
theorem dX7_leads_23 : decode cX7_leads 23 = .ok (.getfield 180, 3) := by decide +kernel
theorem dX7_leads_26 : decode cX7_leads 26 = .ok (.ireturn, 1) := by decide +kernel
set_option maxRecDepth 20000 in
theorem ggX7_keepHears_X7_listen : GoodIn wsX7_keepHears wsX7_listen := goodIn_r _ [8, 1, 9, 3, 10, 11, 12, 7, 13, 14, 15, 16, 17, 18, 19, 20, 21, 22, 23, 24, 25, 26, 27, 28, 29, 30, 31, 32, 33, 34, 35, 36, 37, 38, 39, 40, 41, 42, 43, 44, 45, 46, 47, 48, 49, 50, 51, 52, 53, 54, 55, 56, 57, 58, 59, 60, 61] (by decide +kernel) (by decide +kernel)
set_option maxRecDepth 20000 in
theorem gX7_keepHears_X7_listen : GoodIn wsX7_keepHears (wsV RX7 120 RX7 yX7_listen wsX7_listen) := goodIn_app (goodIn_of _ (by decide +kernel)) ggX7_keepHears_X7_listen
theorem dX7_keepHears_0 : decode cX7_keepHears 0 = .ok (.aload_n 0, 1) := by decide +kernel
theorem dX7_keepHears_1 : decode cX7_keepHears 1 = .ok (.invokevirtual 120, 3) := by decide +kernel
theorem dX7_keepHears_4 : decode cX7_keepHears 4 = .ok (.iconst 0, 1) := by decide +kernel
theorem dX7_keepHears_5 : decode cX7_keepHears 5 = .ok (.istore_n 1, 1) := by decide +kernel
theorem dX7_keepHears_6 : decode cX7_keepHears 6 = .ok (.iload_n 1, 1) := by decide +kernel
theorem dX7_keepHears_7 : decode cX7_keepHears 7 = .ok (.aload_n 0, 1) := by decide +kernel
theorem dX7_keepHears_8 : decode cX7_keepHears 8 = .ok (.getfield 7, 3) := by decide +kernel
theorem dX7_keepHears_11 : decode cX7_keepHears 11 = .ok (.iconst 0, 1) := by decide +kernel
theorem dX7_keepHears_12 : decode cX7_keepHears 12 = .ok (.iaload, 1) := by decide +kernel
theorem dX7_keepHears_13 : decode cX7_keepHears 13 = .ok (.if_icmp .ge 21, 3) := by decide +kernel
theorem dX7_keepHears_16 : decode cX7_keepHears 16 = .ok (.aload_n 0, 1) := by decide +kernel
theorem dX7_keepHears_17 : decode cX7_keepHears 17 = .ok (.getfield 42, 3) := by decide +kernel
theorem dX7_keepHears_20 : decode cX7_keepHears 20 = .ok (.iload_n 1, 1) := by decide +kernel
theorem dX7_keepHears_21 : decode cX7_keepHears 21 = .ok (.aload_n 0, 1) := by decide +kernel
theorem dX7_keepHears_22 : decode cX7_keepHears 22 = .ok (.getfield 30, 3) := by decide +kernel
theorem dX7_keepHears_25 : decode cX7_keepHears 25 = .ok (.iload_n 1, 1) := by decide +kernel
theorem dX7_keepHears_26 : decode cX7_keepHears 26 = .ok (.iaload, 1) := by decide +kernel
theorem dX7_keepHears_27 : decode cX7_keepHears 27 = .ok (.iastore, 1) := by decide +kernel
theorem dX7_keepHears_28 : decode cX7_keepHears 28 = .ok (.iinc 1 1, 3) := by decide +kernel
theorem dX7_keepHears_31 : decode cX7_keepHears 31 = .ok (.goto (-25), 3) := by decide +kernel
theorem dX7_keepHears_34 : decode cX7_keepHears 34 = .ok (.return_, 1) := by decide +kernel
set_option maxRecDepth 20000 in
theorem ggX7_otherHears_X7_listen : GoodIn wsX7_otherHears wsX7_listen := goodIn_r _ [8, 1, 9, 2, 10, 11, 12, 7, 13, 14, 15, 16, 17, 18, 19, 20, 21, 22, 23, 24, 25, 26, 27, 28, 29, 30, 31, 32, 33, 34, 35, 36, 37, 38, 39, 40, 41, 42, 43, 44, 45, 46, 47, 48, 49, 50, 51, 52, 53, 54, 55, 56, 57, 58, 59, 60, 61] (by decide +kernel) (by decide +kernel)
set_option maxRecDepth 20000 in
theorem gX7_otherHears_X7_listen : GoodIn wsX7_otherHears (wsV RX7 120 RX7 yX7_listen wsX7_listen) := goodIn_app (goodIn_of _ (by decide +kernel)) ggX7_otherHears_X7_listen
theorem dX7_otherHears_0 : decode cX7_otherHears 0 = .ok (.aload_n 0, 1) := by decide +kernel
theorem dX7_otherHears_1 : decode cX7_otherHears 1 = .ok (.invokevirtual 120, 3) := by decide +kernel
theorem dX7_otherHears_4 : decode cX7_otherHears 4 = .ok (.iconst 0, 1) := by decide +kernel
theorem dX7_otherHears_5 : decode cX7_otherHears 5 = .ok (.istore_n 1, 1) := by decide +kernel
theorem dX7_otherHears_6 : decode cX7_otherHears 6 = .ok (.iconst 0, 1) := by decide +kernel
theorem dX7_otherHears_7 : decode cX7_otherHears 7 = .ok (.istore_n 2, 1) := by decide +kernel
theorem dX7_otherHears_8 : decode cX7_otherHears 8 = .ok (.iload_n 2, 1) := by decide +kernel
theorem dX7_otherHears_9 : decode cX7_otherHears 9 = .ok (.aload_n 0, 1) := by decide +kernel
theorem dX7_otherHears_10 : decode cX7_otherHears 10 = .ok (.getfield 7, 3) := by decide +kernel
theorem dX7_otherHears_13 : decode cX7_otherHears 13 = .ok (.iconst 0, 1) := by decide +kernel
theorem dX7_otherHears_14 : decode cX7_otherHears 14 = .ok (.iaload, 1) := by decide +kernel
theorem dX7_otherHears_15 : decode cX7_otherHears 15 = .ok (.if_icmp .ge 34, 3) := by decide +kernel
theorem dX7_otherHears_18 : decode cX7_otherHears 18 = .ok (.iload_n 1, 1) := by decide +kernel
theorem dX7_otherHears_19 : decode cX7_otherHears 19 = .ok (.aload_n 0, 1) := by decide +kernel
theorem dX7_otherHears_20 : decode cX7_otherHears 20 = .ok (.getfield 30, 3) := by decide +kernel
theorem dX7_otherHears_23 : decode cX7_otherHears 23 = .ok (.iload_n 2, 1) := by decide +kernel
theorem dX7_otherHears_24 : decode cX7_otherHears 24 = .ok (.iaload, 1) := by decide +kernel
theorem dX7_otherHears_25 : decode cX7_otherHears 25 = .ok (.aload_n 0, 1) := by decide +kernel
theorem dX7_otherHears_26 : decode cX7_otherHears 26 = .ok (.getfield 42, 3) := by decide +kernel
theorem dX7_otherHears_29 : decode cX7_otherHears 29 = .ok (.iload_n 2, 1) := by decide +kernel
theorem dX7_otherHears_30 : decode cX7_otherHears 30 = .ok (.iaload, 1) := by decide +kernel
theorem dX7_otherHears_31 : decode cX7_otherHears 31 = .ok (.if_icmp .eq 9, 3) := by decide +kernel
theorem dX7_otherHears_34 : decode cX7_otherHears 34 = .ok (.iconst 1, 1) := by decide +kernel
theorem dX7_otherHears_35 : decode cX7_otherHears 35 = .ok (.iload_n 2, 1) := by decide +kernel
theorem dX7_otherHears_36 : decode cX7_otherHears 36 = .ok (.ishl, 1) := by decide +kernel
theorem dX7_otherHears_37 : decode cX7_otherHears 37 = .ok (.goto 4, 3) := by decide +kernel
theorem dX7_otherHears_40 : decode cX7_otherHears 40 = .ok (.iconst 0, 1) := by decide +kernel
theorem dX7_otherHears_41 : decode cX7_otherHears 41 = .ok (.ior, 1) := by decide +kernel
theorem dX7_otherHears_42 : decode cX7_otherHears 42 = .ok (.istore_n 1, 1) := by decide +kernel
theorem dX7_otherHears_43 : decode cX7_otherHears 43 = .ok (.iinc 2 1, 3) := by decide +kernel
theorem dX7_otherHears_46 : decode cX7_otherHears 46 = .ok (.goto (-38), 3) := by decide +kernel
theorem dX7_otherHears_49 : decode cX7_otherHears 49 = .ok (.iload_n 1, 1) := by decide +kernel
theorem dX7_otherHears_50 : decode cX7_otherHears 50 = .ok (.ireturn, 1) := by decide +kernel
set_option maxRecDepth 20000 in
theorem ggX7_changed_X7_isTent : GoodIn wsX7_changed wsX7_isTent := goodIn_r _ [6, 1, 7, 8, 5, 9, 63, 64, 65, 66, 67, 68, 69, 70, 71, 72, 73, 74, 75, 76, 77, 78, 79, 80, 81, 82, 83, 84, 85, 86, 87, 88, 89, 90] (by decide +kernel) (by decide +kernel)
set_option maxRecDepth 20000 in
theorem gX7_changed_X7_isTent : GoodIn wsX7_changed (wsV RX7 115 RX7 yX7_isTent wsX7_isTent) := goodIn_app (goodIn_of _ (by decide +kernel)) ggX7_changed_X7_isTent
set_option maxRecDepth 20000 in
theorem ggX7_changed_X7_isYard : GoodIn wsX7_changed wsX7_isYard := goodIn_r _ [12, 13, 7, 8, 5, 9] (by decide +kernel) (by decide +kernel)
set_option maxRecDepth 20000 in
theorem gX7_changed_X7_isYard : GoodIn wsX7_changed (va_wsS RX7 102 yX7_isYard wsX7_isYard) := goodIn_app (goodIn_of _ (by decide +kernel)) ggX7_changed_X7_isYard
set_option maxRecDepth 20000 in
theorem ggX7_changed_X7_finds : GoodIn wsX7_changed wsX7_finds := goodIn_r _ [17, 18, 19, 63, 64, 65, 66, 67, 68, 69, 70, 71, 72, 73, 74, 75, 76, 77, 78, 79, 80, 81, 82, 83, 84, 85, 86, 87, 88, 89, 90] (by decide +kernel) (by decide +kernel)
set_option maxRecDepth 20000 in
theorem gX7_changed_X7_finds : GoodIn wsX7_changed (wsV RX7 106 RX7 yX7_finds wsX7_finds) := goodIn_app (goodIn_of _ (by decide +kernel)) ggX7_changed_X7_finds
set_option maxRecDepth 20000 in
theorem ggX7_changed_X7_whoIs : GoodIn wsX7_changed wsX7_whoIs := goodIn_r _ [23, 1, 24, 25, 26, 5, 27, 63, 64, 65, 66, 67, 68, 69, 70, 71, 72, 73, 74, 75, 76, 77, 78, 79, 80, 81, 82, 83, 84, 85, 86, 87, 88, 89, 90] (by decide +kernel) (by decide +kernel)
set_option maxRecDepth 20000 in
theorem gX7_changed_X7_whoIs : GoodIn wsX7_changed (wsV RX7 109 RX7 yX7_whoIs wsX7_whoIs) := goodIn_app (goodIn_of _ (by decide +kernel)) ggX7_changed_X7_whoIs
set_option maxRecDepth 20000 in
theorem ggX7_changed_X7_keepHears : GoodIn wsX7_changed wsX7_keepHears := goodIn_r _ [31, 1, 32, 33, 34, 35, 36, 5, 37, 38, 39, 40, 41, 42, 43, 44, 45, 46, 47, 24, 25, 26, 27, 48, 49, 50, 51, 52, 53, 54, 55, 56, 57, 58, 63, 64, 65, 66, 67, 68, 69, 70, 71, 72, 73, 74, 75, 76, 77, 78, 79, 80, 81, 82, 83, 84, 85, 86, 87, 88, 89, 90] (by decide +kernel) (by decide +kernel)
set_option maxRecDepth 20000 in
theorem gX7_changed_X7_keepHears : GoodIn wsX7_changed (wsV RX7 190 RX7 yX7_keepHears wsX7_keepHears) := goodIn_app (goodIn_of _ (by decide +kernel)) ggX7_changed_X7_keepHears
set_option maxRecDepth 20000 in
theorem ggX7_changed_X7_yard : GoodIn wsX7_changed wsX7_yard := goodIn_r _ [27, 1, 63, 64, 65, 66, 67, 68, 69, 70, 71, 72, 73, 74, 75, 76, 77, 78, 79, 80, 81, 82, 83, 84, 85, 86, 87, 88, 89, 90] (by decide +kernel) (by decide +kernel)
set_option maxRecDepth 20000 in
theorem gX7_changed_X7_yard : GoodIn wsX7_changed (wsV RX7 64 RX7 yX7_yard wsX7_yard) := goodIn_app (goodIn_of _ (by decide +kernel)) ggX7_changed_X7_yard
set_option maxRecDepth 20000 in
theorem ggX7_changed_X7_otherHears : GoodIn wsX7_changed wsX7_otherHears := goodIn_r _ [62, 1, 33, 32, 34, 35, 36, 5, 37, 38, 39, 40, 41, 42, 43, 44, 45, 46, 47, 24, 25, 26, 27, 48, 49, 50, 51, 52, 53, 54, 55, 56, 57, 58, 63, 64, 65, 66, 67, 68, 69, 70, 71, 72, 73, 74, 75, 76, 77, 78, 79, 80, 81, 82, 83, 84, 85, 86, 87, 88, 89, 90] (by decide +kernel) (by decide +kernel)
set_option maxRecDepth 20000 in
theorem gX7_changed_X7_otherHears : GoodIn wsX7_changed (wsV RX7 193 RX7 yX7_otherHears wsX7_otherHears) := goodIn_app (goodIn_of _ (by decide +kernel)) ggX7_changed_X7_otherHears
theorem dX7_changed_0 : decode cX7_changed 0 = .ok (.aload_n 0, 1) := by decide +kernel
theorem dX7_changed_1 : decode cX7_changed 1 = .ok (.iload_n 1, 1) := by decide +kernel
theorem dX7_changed_2 : decode cX7_changed 2 = .ok (.invokevirtual 115, 3) := by decide +kernel
theorem dX7_changed_5 : decode cX7_changed 5 = .ok (.ifCond .eq 11, 3) := by decide +kernel
theorem dX7_changed_8 : decode cX7_changed 8 = .ok (.iload_n 2, 1) := by decide +kernel
theorem dX7_changed_9 : decode cX7_changed 9 = .ok (.iload_n 3, 1) := by decide +kernel
theorem dX7_changed_10 : decode cX7_changed 10 = .ok (.invokestatic 102, 3) := by decide +kernel
theorem dX7_changed_13 : decode cX7_changed 13 = .ok (.ifCond .ne 9, 3) := by decide +kernel
theorem dX7_changed_16 : decode cX7_changed 16 = .ok (.aload_n 0, 1) := by decide +kernel
theorem dX7_changed_17 : decode cX7_changed 17 = .ok (.iconst 0, 1) := by decide +kernel
theorem dX7_changed_18 : decode cX7_changed 18 = .ok (.invokevirtual 106, 3) := by decide +kernel
theorem dX7_changed_21 : decode cX7_changed 21 = .ok (.ireturn, 1) := by decide +kernel
theorem dX7_changed_22 : decode cX7_changed 22 = .ok (.aload_n 0, 1) := by decide +kernel
theorem dX7_changed_23 : decode cX7_changed 23 = .ok (.bipush 12, 2) := by decide +kernel
theorem dX7_changed_25 : decode cX7_changed 25 = .ok (.iload_n 3, 1) := by decide +kernel
theorem dX7_changed_26 : decode cX7_changed 26 = .ok (.imul, 1) := by decide +kernel
theorem dX7_changed_27 : decode cX7_changed 27 = .ok (.iload_n 2, 1) := by decide +kernel
theorem dX7_changed_28 : decode cX7_changed 28 = .ok (.iadd, 1) := by decide +kernel
theorem dX7_changed_29 : decode cX7_changed 29 = .ok (.invokevirtual 109, 3) := by decide +kernel
theorem dX7_changed_32 : decode cX7_changed 32 = .ok (.istore 4, 2) := by decide +kernel
theorem dX7_changed_34 : decode cX7_changed 34 = .ok (.iload 4, 2) := by decide +kernel
theorem dX7_changed_36 : decode cX7_changed 36 = .ok (.iconst (-1), 1) := by decide +kernel
theorem dX7_changed_37 : decode cX7_changed 37 = .ok (.if_icmp .eq 15, 3) := by decide +kernel
theorem dX7_changed_40 : decode cX7_changed 40 = .ok (.iload 4, 2) := by decide +kernel
theorem dX7_changed_42 : decode cX7_changed 42 = .ok (.iload_n 1, 1) := by decide +kernel
theorem dX7_changed_43 : decode cX7_changed 43 = .ok (.if_icmp .eq 9, 3) := by decide +kernel
theorem dX7_changed_46 : decode cX7_changed 46 = .ok (.aload_n 0, 1) := by decide +kernel
theorem dX7_changed_47 : decode cX7_changed 47 = .ok (.iconst 4, 1) := by decide +kernel
theorem dX7_changed_48 : decode cX7_changed 48 = .ok (.invokevirtual 106, 3) := by decide +kernel
theorem dX7_changed_51 : decode cX7_changed 51 = .ok (.ireturn, 1) := by decide +kernel
theorem dX7_changed_52 : decode cX7_changed 52 = .ok (.aload_n 0, 1) := by decide +kernel
theorem dX7_changed_53 : decode cX7_changed 53 = .ok (.invokevirtual 190, 3) := by decide +kernel
theorem dX7_changed_56 : decode cX7_changed 56 = .ok (.aload_n 0, 1) := by decide +kernel
theorem dX7_changed_57 : decode cX7_changed 57 = .ok (.iload_n 1, 1) := by decide +kernel
theorem dX7_changed_58 : decode cX7_changed 58 = .ok (.invokevirtual 64, 3) := by decide +kernel
theorem dX7_changed_61 : decode cX7_changed 61 = .ok (.istore 5, 2) := by decide +kernel
theorem dX7_changed_63 : decode cX7_changed 63 = .ok (.aload_n 0, 1) := by decide +kernel
theorem dX7_changed_64 : decode cX7_changed 64 = .ok (.getfield 7, 3) := by decide +kernel
theorem dX7_changed_67 : decode cX7_changed 67 = .ok (.bipush 20, 2) := by decide +kernel
theorem dX7_changed_69 : decode cX7_changed 69 = .ok (.iload_n 1, 1) := by decide +kernel
theorem dX7_changed_70 : decode cX7_changed 70 = .ok (.iadd, 1) := by decide +kernel
theorem dX7_changed_71 : decode cX7_changed 71 = .ok (.bipush 12, 2) := by decide +kernel
theorem dX7_changed_73 : decode cX7_changed 73 = .ok (.iload_n 3, 1) := by decide +kernel
theorem dX7_changed_74 : decode cX7_changed 74 = .ok (.imul, 1) := by decide +kernel
theorem dX7_changed_75 : decode cX7_changed 75 = .ok (.iload_n 2, 1) := by decide +kernel
theorem dX7_changed_76 : decode cX7_changed 76 = .ok (.iadd, 1) := by decide +kernel
theorem dX7_changed_77 : decode cX7_changed 77 = .ok (.iastore, 1) := by decide +kernel
theorem dX7_changed_78 : decode cX7_changed 78 = .ok (.aload_n 0, 1) := by decide +kernel
theorem dX7_changed_79 : decode cX7_changed 79 = .ok (.invokevirtual 193, 3) := by decide +kernel
theorem dX7_changed_82 : decode cX7_changed 82 = .ok (.iconst 1, 1) := by decide +kernel
theorem dX7_changed_83 : decode cX7_changed 83 = .ok (.iload_n 1, 1) := by decide +kernel
theorem dX7_changed_84 : decode cX7_changed 84 = .ok (.ishl, 1) := by decide +kernel
theorem dX7_changed_85 : decode cX7_changed 85 = .ok (.iconst (-1), 1) := by decide +kernel
theorem dX7_changed_86 : decode cX7_changed 86 = .ok (.ixor, 1) := by decide +kernel
theorem dX7_changed_87 : decode cX7_changed 87 = .ok (.iand, 1) := by decide +kernel
theorem dX7_changed_88 : decode cX7_changed 88 = .ok (.istore 6, 2) := by decide +kernel
theorem dX7_changed_90 : decode cX7_changed 90 = .ok (.aload_n 0, 1) := by decide +kernel
theorem dX7_changed_91 : decode cX7_changed 91 = .ok (.getfield 7, 3) := by decide +kernel
theorem dX7_changed_94 : decode cX7_changed 94 = .ok (.bipush 20, 2) := by decide +kernel
theorem dX7_changed_96 : decode cX7_changed 96 = .ok (.iload_n 1, 1) := by decide +kernel
theorem dX7_changed_97 : decode cX7_changed 97 = .ok (.iadd, 1) := by decide +kernel
theorem dX7_changed_98 : decode cX7_changed 98 = .ok (.iload 5, 2) := by decide +kernel
theorem dX7_changed_100 : decode cX7_changed 100 = .ok (.iastore, 1) := by decide +kernel
theorem dX7_changed_101 : decode cX7_changed 101 = .ok (.iload 6, 2) := by decide +kernel
theorem dX7_changed_103 : decode cX7_changed 103 = .ok (.ireturn, 1) := by decide +kernel
set_option maxRecDepth 20000 in
theorem ggX7_still_X7_isTent : GoodIn wsX7_still wsX7_isTent := goodIn_r _ [6, 1, 7, 8, 5, 9, 59, 60, 61, 62, 63, 64, 65, 66, 67, 68, 69, 70, 71, 72, 73, 74, 75, 76, 77, 78, 79, 80, 81, 82, 83, 84, 85, 86] (by decide +kernel) (by decide +kernel)
