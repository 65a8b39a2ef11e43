set_option maxRecDepth 20000 in
theorem gX7_still_X7_isTent : GoodIn wsX7_still (wsV RX7 115 RX7 yX7_isTent wsX7_isTent) := goodIn_app (goodIn_of _ (by decide +kernel)) ggX7_still_X7_isTent
set_option maxRecDepth 20000 in
theorem ggX7_still_X7_finds : GoodIn wsX7_still wsX7_finds := goodIn_r _ [13, 14, 15, 59, 60, 61, 62, 63, 64, 65, 66, 67, 68, 69, 70, 71, 72, 73, 74, 75, 76, 77, 78, 79, 80, 81, 82, 83, 84, 85, 86] (by decide +kernel) (by decide +kernel)
set_option maxRecDepth 20000 in
theorem gX7_still_X7_finds : GoodIn wsX7_still (wsV RX7 106 RX7 yX7_finds wsX7_finds) := goodIn_app (goodIn_of _ (by decide +kernel)) ggX7_still_X7_finds
set_option maxRecDepth 20000 in
theorem ggX7_still_X7_keepHears : GoodIn wsX7_still wsX7_keepHears := goodIn_r _ [19, 1, 20, 21, 22, 23, 24, 5, 25, 26, 27, 28, 29, 30, 31, 32, 33, 34, 35, 36, 37, 38, 39, 40, 41, 42, 43, 44, 45, 46, 47, 48, 49, 50, 59, 60, 61, 62, 63, 64, 65, 66, 67, 68, 69, 70, 71, 72, 73, 74, 75, 76, 77, 78, 79, 80, 81, 82, 83, 84, 85, 86] (by decide +kernel) (by decide +kernel)
set_option maxRecDepth 20000 in
theorem gX7_still_X7_keepHears : GoodIn wsX7_still (wsV RX7 190 RX7 yX7_keepHears wsX7_keepHears) := goodIn_app (goodIn_of _ (by decide +kernel)) ggX7_still_X7_keepHears
set_option maxRecDepth 20000 in
theorem ggX7_still_X7_yard : GoodIn wsX7_still wsX7_yard := goodIn_r _ [39, 1, 59, 60, 61, 62, 63, 64, 65, 66, 67, 68, 69, 70, 71, 72, 73, 74, 75, 76, 77, 78, 79, 80, 81, 82, 83, 84, 85, 86] (by decide +kernel) (by decide +kernel)
set_option maxRecDepth 20000 in
theorem gX7_still_X7_yard : GoodIn wsX7_still (wsV RX7 64 RX7 yX7_yard wsX7_yard) := goodIn_app (goodIn_of _ (by decide +kernel)) ggX7_still_X7_yard
set_option maxRecDepth 20000 in
theorem ggX7_still_X7_whoIs : GoodIn wsX7_still wsX7_whoIs := goodIn_r _ [54, 1, 36, 37, 38, 5, 39, 59, 60, 61, 62, 63, 64, 65, 66, 67, 68, 69, 70, 71, 72, 73, 74, 75, 76, 77, 78, 79, 80, 81, 82, 83, 84, 85, 86] (by decide +kernel) (by decide +kernel)
set_option maxRecDepth 20000 in
theorem gX7_still_X7_whoIs : GoodIn wsX7_still (wsV RX7 109 RX7 yX7_whoIs wsX7_whoIs) := goodIn_app (goodIn_of _ (by decide +kernel)) ggX7_still_X7_whoIs
set_option maxRecDepth 20000 in
theorem ggX7_still_X7_otherHears : GoodIn wsX7_still wsX7_otherHears := goodIn_r _ [58, 1, 21, 20, 22, 23, 24, 5, 25, 26, 27, 28, 29, 30, 31, 32, 33, 34, 35, 36, 37, 38, 39, 40, 41, 42, 43, 44, 45, 46, 47, 48, 49, 50, 59, 60, 61, 62, 63, 64, 65, 66, 67, 68, 69, 70, 71, 72, 73, 74, 75, 76, 77, 78, 79, 80, 81, 82, 83, 84, 85, 86] (by decide +kernel) (by decide +kernel)
set_option maxRecDepth 20000 in
theorem gX7_still_X7_otherHears : GoodIn wsX7_still (wsV RX7 193 RX7 yX7_otherHears wsX7_otherHears) := goodIn_app (goodIn_of _ (by decide +kernel)) ggX7_still_X7_otherHears
theorem dX7_still_0 : decode cX7_still 0 = .ok (.aload_n 0, 1) := by decide +kernel
theorem dX7_still_1 : decode cX7_still 1 = .ok (.iload_n 1, 1) := by decide +kernel
theorem dX7_still_2 : decode cX7_still 2 = .ok (.invokevirtual 115, 3) := by decide +kernel
theorem dX7_still_5 : decode cX7_still 5 = .ok (.ifCond .ne 9, 3) := by decide +kernel
theorem dX7_still_8 : decode cX7_still 8 = .ok (.aload_n 0, 1) := by decide +kernel
theorem dX7_still_9 : decode cX7_still 9 = .ok (.iconst 0, 1) := by decide +kernel
theorem dX7_still_10 : decode cX7_still 10 = .ok (.invokevirtual 106, 3) := by decide +kernel
theorem dX7_still_13 : decode cX7_still 13 = .ok (.ireturn, 1) := by decide +kernel
theorem dX7_still_14 : decode cX7_still 14 = .ok (.aload_n 0, 1) := by decide +kernel
theorem dX7_still_15 : decode cX7_still 15 = .ok (.invokevirtual 190, 3) := by decide +kernel
theorem dX7_still_18 : decode cX7_still 18 = .ok (.aload_n 0, 1) := by decide +kernel
theorem dX7_still_19 : decode cX7_still 19 = .ok (.iload_n 1, 1) := by decide +kernel
theorem dX7_still_20 : decode cX7_still 20 = .ok (.invokevirtual 64, 3) := by decide +kernel
theorem dX7_still_23 : decode cX7_still 23 = .ok (.istore_n 2, 1) := by decide +kernel
theorem dX7_still_24 : decode cX7_still 24 = .ok (.iconst 0, 1) := by decide +kernel
theorem dX7_still_25 : decode cX7_still 25 = .ok (.istore_n 3, 1) := by decide +kernel
theorem dX7_still_26 : decode cX7_still 26 = .ok (.iconst 0, 1) := by decide +kernel
theorem dX7_still_27 : decode cX7_still 27 = .ok (.istore 4, 2) := by decide +kernel
theorem dX7_still_29 : decode cX7_still 29 = .ok (.iload 4, 2) := by decide +kernel
theorem dX7_still_31 : decode cX7_still 31 = .ok (.sipush 144, 3) := by decide +kernel
theorem dX7_still_34 : decode cX7_still 34 = .ok (.if_icmp .ge 58, 3) := by decide +kernel
theorem dX7_still_37 : decode cX7_still 37 = .ok (.aload_n 0, 1) := by decide +kernel
theorem dX7_still_38 : decode cX7_still 38 = .ok (.iload 4, 2) := by decide +kernel
theorem dX7_still_40 : decode cX7_still 40 = .ok (.invokevirtual 109, 3) := by decide +kernel
theorem dX7_still_43 : decode cX7_still 43 = .ok (.iconst (-1), 1) := by decide +kernel
theorem dX7_still_44 : decode cX7_still 44 = .ok (.if_icmp .eq 6, 3) := by decide +kernel
theorem dX7_still_47 : decode cX7_still 47 = .ok (.goto 39, 3) := by decide +kernel
theorem dX7_still_50 : decode cX7_still 50 = .ok (.aload_n 0, 1) := by decide +kernel
theorem dX7_still_51 : decode cX7_still 51 = .ok (.getfield 7, 3) := by decide +kernel
theorem dX7_still_54 : decode cX7_still 54 = .ok (.bipush 20, 2) := by decide +kernel
theorem dX7_still_56 : decode cX7_still 56 = .ok (.iload_n 1, 1) := by decide +kernel
theorem dX7_still_57 : decode cX7_still 57 = .ok (.iadd, 1) := by decide +kernel
theorem dX7_still_58 : decode cX7_still 58 = .ok (.iload 4, 2) := by decide +kernel
theorem dX7_still_60 : decode cX7_still 60 = .ok (.iastore, 1) := by decide +kernel
theorem dX7_still_61 : decode cX7_still 61 = .ok (.iload_n 3, 1) := by decide +kernel
theorem dX7_still_62 : decode cX7_still 62 = .ok (.aload_n 0, 1) := by decide +kernel
theorem dX7_still_63 : decode cX7_still 63 = .ok (.invokevirtual 193, 3) := by decide +kernel
theorem dX7_still_66 : decode cX7_still 66 = .ok (.ifCond .ne 7, 3) := by decide +kernel
theorem dX7_still_69 : decode cX7_still 69 = .ok (.iconst 1, 1) := by decide +kernel
theorem dX7_still_70 : decode cX7_still 70 = .ok (.goto 4, 3) := by decide +kernel
theorem dX7_still_73 : decode cX7_still 73 = .ok (.iconst 0, 1) := by decide +kernel
theorem dX7_still_74 : decode cX7_still 74 = .ok (.iadd, 1) := by decide +kernel
theorem dX7_still_75 : decode cX7_still 75 = .ok (.istore_n 3, 1) := by decide +kernel
theorem dX7_still_76 : decode cX7_still 76 = .ok (.aload_n 0, 1) := by decide +kernel
theorem dX7_still_77 : decode cX7_still 77 = .ok (.getfield 7, 3) := by decide +kernel
theorem dX7_still_80 : decode cX7_still 80 = .ok (.bipush 20, 2) := by decide +kernel
theorem dX7_still_82 : decode cX7_still 82 = .ok (.iload_n 1, 1) := by decide +kernel
theorem dX7_still_83 : decode cX7_still 83 = .ok (.iadd, 1) := by decide +kernel
theorem dX7_still_84 : decode cX7_still 84 = .ok (.iload_n 2, 1) := by decide +kernel
theorem dX7_still_85 : decode cX7_still 85 = .ok (.iastore, 1) := by decide +kernel
theorem dX7_still_86 : decode cX7_still 86 = .ok (.iinc 4 1, 3) := by decide +kernel
theorem dX7_still_89 : decode cX7_still 89 = .ok (.goto (-60), 3) := by decide +kernel
theorem dX7_still_92 : decode cX7_still 92 = .ok (.iload_n 3, 1) := by decide +kernel
theorem dX7_still_93 : decode cX7_still 93 = .ok (.ireturn, 1) := by decide +kernel
set_option maxRecDepth 20000 in
theorem ggX7_key_X7_listen : GoodIn wsX7_key wsX7_listen := goodIn_r _ [8, 1, 9, 3, 10, 11, 12, 7, 13, 14, 15, 16, 17, 2, 18, 19, 20, 21, 22, 23, 24, 25, 26, 27, 28, 29, 30, 31, 32, 47, 48, 49, 50, 51, 52, 53, 54, 55, 56, 57, 58, 59, 60, 61, 62, 63, 64, 65, 66, 67, 68, 69, 70, 71, 72, 73, 74] (by decide +kernel) (by decide +kernel)
set_option maxRecDepth 20000 in
theorem gX7_key_X7_listen : GoodIn wsX7_key (wsV RX7 120 RX7 yX7_listen wsX7_listen) := goodIn_app (goodIn_of _ (by decide +kernel)) ggX7_key_X7_listen
set_option maxRecDepth 20000 in
theorem ggX7_key_X7_lineOf : GoodIn wsX7_key wsX7_lineOf := goodIn_r _ [36, 3, 37, 38, 39, 7, 40, 47, 48, 49, 50, 51, 52, 53, 54, 55, 56, 57, 58, 59, 60, 61, 62, 63, 64, 65, 66, 67, 68, 69, 70, 71, 72, 73, 74] (by decide +kernel) (by decide +kernel)
set_option maxRecDepth 20000 in
theorem gX7_key_X7_lineOf : GoodIn wsX7_key (wsV RX7 126 RX7 yX7_lineOf wsX7_lineOf) := goodIn_app (goodIn_of _ (by decide +kernel)) ggX7_key_X7_lineOf
set_option maxRecDepth 20000 in
theorem ggX7_key_X7_finds : GoodIn wsX7_key wsX7_finds := goodIn_r _ [44, 45, 46, 47, 48, 49, 50, 51, 52, 53, 54, 55, 56, 57, 58, 59, 60, 61, 62, 63, 64, 65, 66, 67, 68, 69, 70, 71, 72, 73, 74] (by decide +kernel) (by decide +kernel)
set_option maxRecDepth 20000 in
theorem gX7_key_X7_finds : GoodIn wsX7_key (wsV RX7 106 RX7 yX7_finds wsX7_finds) := goodIn_app (goodIn_of _ (by decide +kernel)) ggX7_key_X7_finds
theorem dX7_key_0 : decode cX7_key 0 = .ok (.iconst (-1), 1) := by decide +kernel
theorem dX7_key_1 : decode cX7_key 1 = .ok (.istore_n 1, 1) := by decide +kernel
theorem dX7_key_2 : decode cX7_key 2 = .ok (.iconst 0, 1) := by decide +kernel
theorem dX7_key_3 : decode cX7_key 3 = .ok (.istore_n 2, 1) := by decide +kernel
theorem dX7_key_4 : decode cX7_key 4 = .ok (.iconst 0, 1) := by decide +kernel
theorem dX7_key_5 : decode cX7_key 5 = .ok (.istore_n 3, 1) := by decide +kernel
theorem dX7_key_6 : decode cX7_key 6 = .ok (.iload_n 3, 1) := by decide +kernel
theorem dX7_key_7 : decode cX7_key 7 = .ok (.aload_n 0, 1) := by decide +kernel
theorem dX7_key_8 : decode cX7_key 8 = .ok (.getfield 7, 3) := by decide +kernel
theorem dX7_key_11 : decode cX7_key 11 = .ok (.iconst 0, 1) := by decide +kernel
theorem dX7_key_12 : decode cX7_key 12 = .ok (.iaload, 1) := by decide +kernel
theorem dX7_key_13 : decode cX7_key 13 = .ok (.if_icmp .ge 89, 3) := by decide +kernel
theorem dX7_key_16 : decode cX7_key 16 = .ok (.aload_n 0, 1) := by decide +kernel
theorem dX7_key_17 : decode cX7_key 17 = .ok (.iload_n 3, 1) := by decide +kernel
theorem dX7_key_18 : decode cX7_key 18 = .ok (.putfield 26, 3) := by decide +kernel
theorem dX7_key_21 : decode cX7_key 21 = .ok (.aload_n 0, 1) := by decide +kernel
theorem dX7_key_22 : decode cX7_key 22 = .ok (.invokevirtual 120, 3) := by decide +kernel
theorem dX7_key_25 : decode cX7_key 25 = .ok (.aload_n 0, 1) := by decide +kernel
theorem dX7_key_26 : decode cX7_key 26 = .ok (.getfield 30, 3) := by decide +kernel
theorem dX7_key_29 : decode cX7_key 29 = .ok (.iload_n 3, 1) := by decide +kernel
theorem dX7_key_30 : decode cX7_key 30 = .ok (.iconst (-1), 1) := by decide +kernel
theorem dX7_key_31 : decode cX7_key 31 = .ok (.iastore, 1) := by decide +kernel
theorem dX7_key_32 : decode cX7_key 32 = .ok (.iconst 0, 1) := by decide +kernel
theorem dX7_key_33 : decode cX7_key 33 = .ok (.istore 4, 2) := by decide +kernel
theorem dX7_key_35 : decode cX7_key 35 = .ok (.iconst 0, 1) := by decide +kernel
theorem dX7_key_36 : decode cX7_key 36 = .ok (.istore 5, 2) := by decide +kernel
theorem dX7_key_38 : decode cX7_key 38 = .ok (.iload 5, 2) := by decide +kernel
theorem dX7_key_40 : decode cX7_key 40 = .ok (.aload_n 0, 1) := by decide +kernel
theorem dX7_key_41 : decode cX7_key 41 = .ok (.getfield 7, 3) := by decide +kernel
theorem dX7_key_44 : decode cX7_key 44 = .ok (.iconst 0, 1) := by decide +kernel
theorem dX7_key_45 : decode cX7_key 45 = .ok (.iaload, 1) := by decide +kernel
theorem dX7_key_46 : decode cX7_key 46 = .ok (.if_icmp .ge 34, 3) := by decide +kernel
theorem dX7_key_49 : decode cX7_key 49 = .ok (.iload 4, 2) := by decide +kernel
theorem dX7_key_51 : decode cX7_key 51 = .ok (.iload 5, 2) := by decide +kernel
theorem dX7_key_53 : decode cX7_key 53 = .ok (.iload_n 3, 1) := by decide +kernel
theorem dX7_key_54 : decode cX7_key 54 = .ok (.if_icmp .eq 16, 3) := by decide +kernel
theorem dX7_key_57 : decode cX7_key 57 = .ok (.aload_n 0, 1) := by decide +kernel
theorem dX7_key_58 : decode cX7_key 58 = .ok (.iload 5, 2) := by decide +kernel
theorem dX7_key_60 : decode cX7_key 60 = .ok (.invokevirtual 126, 3) := by decide +kernel
theorem dX7_key_63 : decode cX7_key 63 = .ok (.ifCond .lt 7, 3) := by decide +kernel
theorem dX7_key_66 : decode cX7_key 66 = .ok (.iconst 1, 1) := by decide +kernel
theorem dX7_key_67 : decode cX7_key 67 = .ok (.goto 4, 3) := by decide +kernel
theorem dX7_key_70 : decode cX7_key 70 = .ok (.iconst 0, 1) := by decide +kernel
theorem dX7_key_71 : decode cX7_key 71 = .ok (.iadd, 1) := by decide +kernel
theorem dX7_key_72 : decode cX7_key 72 = .ok (.istore 4, 2) := by decide +kernel
theorem dX7_key_74 : decode cX7_key 74 = .ok (.iinc 5 1, 3) := by decide +kernel
theorem dX7_key_77 : decode cX7_key 77 = .ok (.goto (-39), 3) := by decide +kernel
theorem dX7_key_80 : decode cX7_key 80 = .ok (.iload_n 1, 1) := by decide +kernel
theorem dX7_key_81 : decode cX7_key 81 = .ok (.iconst (-1), 1) := by decide +kernel
theorem dX7_key_82 : decode cX7_key 82 = .ok (.if_icmp .eq 9, 3) := by decide +kernel
theorem dX7_key_85 : decode cX7_key 85 = .ok (.iload 4, 2) := by decide +kernel
theorem dX7_key_87 : decode cX7_key 87 = .ok (.iload_n 2, 1) := by decide +kernel
theorem dX7_key_88 : decode cX7_key 88 = .ok (.if_icmp .ge 8, 3) := by decide +kernel
theorem dX7_key_91 : decode cX7_key 91 = .ok (.iload_n 3, 1) := by decide +kernel
theorem dX7_key_92 : decode cX7_key 92 = .ok (.istore_n 1, 1) := by decide +kernel
theorem dX7_key_93 : decode cX7_key 93 = .ok (.iload 4, 2) := by decide +kernel
theorem dX7_key_95 : decode cX7_key 95 = .ok (.istore_n 2, 1) := by decide +kernel
theorem dX7_key_96 : decode cX7_key 96 = .ok (.iinc 3 1, 3) := by decide +kernel
theorem dX7_key_99 : decode cX7_key 99 = .ok (.goto (-93), 3) := by decide +kernel
theorem dX7_key_102 : decode cX7_key 102 = .ok (.aload_n 0, 1) := by decide +kernel
theorem dX7_key_103 : decode cX7_key 103 = .ok (.iconst (-1), 1) := by decide +kernel
theorem dX7_key_104 : decode cX7_key 104 = .ok (.putfield 26, 3) := by decide +kernel
theorem dX7_key_107 : decode cX7_key 107 = .ok (.iload_n 1, 1) := by decide +kernel
theorem dX7_key_108 : decode cX7_key 108 = .ok (.iconst (-1), 1) := by decide +kernel
theorem dX7_key_109 : decode cX7_key 109 = .ok (.if_icmp .ne 11, 3) := by decide +kernel
theorem dX7_key_112 : decode cX7_key 112 = .ok (.aload_n 0, 1) := by decide +kernel
theorem dX7_key_113 : decode cX7_key 113 = .ok (.iconst 3, 1) := by decide +kernel
theorem dX7_key_114 : decode cX7_key 114 = .ok (.invokevirtual 106, 3) := by decide +kernel
theorem dX7_key_117 : decode cX7_key 117 = .ok (.goto 4, 3) := by decide +kernel
theorem dX7_key_120 : decode cX7_key 120 = .ok (.iload_n 1, 1) := by decide +kernel
theorem dX7_key_121 : decode cX7_key 121 = .ok (.ireturn, 1) := by decide +kernel
set_option maxRecDepth 20000 in
theorem ggX7_leader_X7_listen : GoodIn wsX7_leader wsX7_listen := goodIn_r _ [6, 1, 7, 8, 9, 10, 11, 5, 12, 13, 14, 15, 16, 17, 18, 19, 20, 21, 22, 23, 24, 25, 26, 27, 28, 29, 30, 31, 32, 46, 47, 48, 49, 50, 51, 52, 53, 54, 55, 56, 57, 58, 59, 60, 61, 62, 63, 64, 65, 66, 67, 68, 69, 70, 71, 72, 73] (by decide +kernel) (by decide +kernel)
set_option maxRecDepth 20000 in
theorem gX7_leader_X7_listen : GoodIn wsX7_leader (wsV RX7 120 RX7 yX7_listen wsX7_listen) := goodIn_app (goodIn_of _ (by decide +kernel)) ggX7_leader_X7_listen
set_option maxRecDepth 20000 in
theorem ggX7_leader_X7_followersOf : GoodIn wsX7_leader wsX7_followersOf := goodIn_r _ [36, 1, 8, 46, 47, 48, 49, 50, 51, 52, 53, 54, 55, 56, 57, 58, 59, 60, 61, 62, 63, 64, 65, 66, 67, 68, 69, 70, 71, 72, 73] (by decide +kernel) (by decide +kernel)
set_option maxRecDepth 20000 in
theorem gX7_leader_X7_followersOf : GoodIn wsX7_leader (wsV RX7 129 RX7 yX7_followersOf wsX7_followersOf) := goodIn_app (goodIn_of _ (by decide +kernel)) ggX7_leader_X7_followersOf
set_option maxRecDepth 20000 in
theorem ggX7_leader_X7_ones : GoodIn wsX7_leader wsX7_ones := goodIn_r _ [39] (by decide +kernel) (by decide +kernel)
set_option maxRecDepth 20000 in
theorem gX7_leader_X7_ones : GoodIn wsX7_leader (va_wsS RX7 148 yX7_ones wsX7_ones) := goodIn_app (goodIn_of _ (by decide +kernel)) ggX7_leader_X7_ones
set_option maxRecDepth 20000 in
theorem ggX7_leader_X7_finds : GoodIn wsX7_leader wsX7_finds := goodIn_r _ [43, 44, 45, 46, 47, 48, 49, 50, 51, 52, 53, 54, 55, 56, 57, 58, 59, 60, 61, 62, 63, 64, 65, 66, 67, 68, 69, 70, 71, 72, 73] (by decide +kernel) (by decide +kernel)
set_option maxRecDepth 20000 in
theorem gX7_leader_X7_finds : GoodIn wsX7_leader (wsV RX7 106 RX7 yX7_finds wsX7_finds) := goodIn_app (goodIn_of _ (by decide +kernel)) ggX7_leader_X7_finds
theorem dX7_leader_0 : decode cX7_leader 0 = .ok (.aload_n 0, 1) := by decide +kernel
theorem dX7_leader_1 : decode cX7_leader 1 = .ok (.invokevirtual 120, 3) := by decide +kernel
theorem dX7_leader_4 : decode cX7_leader 4 = .ok (.iconst (-1), 1) := by decide +kernel
theorem dX7_leader_5 : decode cX7_leader 5 = .ok (.istore_n 1, 1) := by decide +kernel
theorem dX7_leader_6 : decode cX7_leader 6 = .ok (.iconst 0, 1) := by decide +kernel
theorem dX7_leader_7 : decode cX7_leader 7 = .ok (.istore_n 2, 1) := by decide +kernel
theorem dX7_leader_8 : decode cX7_leader 8 = .ok (.iload_n 2, 1) := by decide +kernel
theorem dX7_leader_9 : decode cX7_leader 9 = .ok (.aload_n 0, 1) := by decide +kernel
theorem dX7_leader_10 : decode cX7_leader 10 = .ok (.getfield 7, 3) := by decide +kernel
theorem dX7_leader_13 : decode cX7_leader 13 = .ok (.iconst 0, 1) := by decide +kernel
theorem dX7_leader_14 : decode cX7_leader 14 = .ok (.iaload, 1) := by decide +kernel
theorem dX7_leader_15 : decode cX7_leader 15 = .ok (.if_icmp .ge 39, 3) := by decide +kernel
theorem dX7_leader_18 : decode cX7_leader 18 = .ok (.iload_n 1, 1) := by decide +kernel
theorem dX7_leader_19 : decode cX7_leader 19 = .ok (.iconst (-1), 1) := by decide +kernel
theorem dX7_leader_20 : decode cX7_leader 20 = .ok (.if_icmp .eq 22, 3) := by decide +kernel
theorem dX7_leader_23 : decode cX7_leader 23 = .ok (.aload_n 0, 1) := by decide +kernel
theorem dX7_leader_24 : decode cX7_leader 24 = .ok (.iload_n 2, 1) := by decide +kernel
theorem dX7_leader_25 : decode cX7_leader 25 = .ok (.invokevirtual 129, 3) := by decide +kernel
theorem dX7_leader_28 : decode cX7_leader 28 = .ok (.invokestatic 148, 3) := by decide +kernel
theorem dX7_leader_31 : decode cX7_leader 31 = .ok (.aload_n 0, 1) := by decide +kernel
theorem dX7_leader_32 : decode cX7_leader 32 = .ok (.iload_n 1, 1) := by decide +kernel
theorem dX7_leader_33 : decode cX7_leader 33 = .ok (.invokevirtual 129, 3) := by decide +kernel
theorem dX7_leader_36 : decode cX7_leader 36 = .ok (.invokestatic 148, 3) := by decide +kernel
theorem dX7_leader_39 : decode cX7_leader 39 = .ok (.if_icmp .le 7, 3) := by decide +kernel
theorem dX7_leader_42 : decode cX7_leader 42 = .ok (.iload_n 2, 1) := by decide +kernel
theorem dX7_leader_43 : decode cX7_leader 43 = .ok (.goto 4, 3) := by decide +kernel
theorem dX7_leader_46 : decode cX7_leader 46 = .ok (.iload_n 1, 1) := by decide +kernel
theorem dX7_leader_47 : decode cX7_leader 47 = .ok (.istore_n 1, 1) := by decide +kernel
theorem dX7_leader_48 : decode cX7_leader 48 = .ok (.iinc 2 1, 3) := by decide +kernel
theorem dX7_leader_51 : decode cX7_leader 51 = .ok (.goto (-43), 3) := by decide +kernel
theorem dX7_leader_54 : decode cX7_leader 54 = .ok (.iload_n 1, 1) := by decide +kernel
theorem dX7_leader_55 : decode cX7_leader 55 = .ok (.iconst (-1), 1) := by decide +kernel
theorem dX7_leader_56 : decode cX7_leader 56 = .ok (.if_icmp .ne 11, 3) := by decide +kernel
theorem dX7_leader_59 : decode cX7_leader 59 = .ok (.aload_n 0, 1) := by decide +kernel
theorem dX7_leader_60 : decode cX7_leader 60 = .ok (.iconst 3, 1) := by decide +kernel
theorem dX7_leader_61 : decode cX7_leader 61 = .ok (.invokevirtual 106, 3) := by decide +kernel
theorem dX7_leader_64 : decode cX7_leader 64 = .ok (.goto 4, 3) := by decide +kernel
theorem dX7_leader_67 : decode cX7_leader 67 = .ok (.iload_n 1, 1) := by decide +kernel
theorem dX7_leader_68 : decode cX7_leader 68 = .ok (.ireturn, 1) := by decide +kernel
set_option maxRecDepth 20000 in
theorem ggX7_walled_X7_keepHears : GoodIn wsX7_walled wsX7_keepHears := goodIn_r _ [6, 1, 7, 8, 9, 10, 11, 5, 12, 13, 14, 15, 16, 17, 18, 19, 20, 21, 22, 23, 24, 25, 26, 27, 28, 29, 30, 31, 32, 33, 34, 35, 36, 37, 42, 43, 44, 45, 46, 47, 48, 49, 50, 51, 52, 53, 54, 55, 56, 57, 58, 59, 60, 61, 62, 63, 64, 65, 66, 67, 68, 69] (by decide +kernel) (by decide +kernel)
set_option maxRecDepth 20000 in
theorem gX7_walled_X7_keepHears : GoodIn wsX7_walled (wsV RX7 190 RX7 yX7_keepHears wsX7_keepHears) := goodIn_app (goodIn_of _ (by decide +kernel)) ggX7_walled_X7_keepHears
set_option maxRecDepth 20000 in
theorem ggX7_walled_X7_otherHears : GoodIn wsX7_walled wsX7_otherHears := goodIn_r _ [41, 1, 8, 7, 9, 10, 11, 5, 12, 13, 14, 15, 16, 17, 18, 19, 20, 21, 22, 23, 24, 25, 26, 27, 28, 29, 30, 31, 32, 33, 34, 35, 36, 37, 42, 43, 44, 45, 46, 47, 48, 49, 50, 51, 52, 53, 54, 55, 56, 57, 58, 59, 60, 61, 62, 63, 64, 65, 66, 67, 68, 69] (by decide +kernel) (by decide +kernel)
set_option maxRecDepth 20000 in
theorem gX7_walled_X7_otherHears : GoodIn wsX7_walled (wsV RX7 193 RX7 yX7_otherHears wsX7_otherHears) := goodIn_app (goodIn_of _ (by decide +kernel)) ggX7_walled_X7_otherHears
theorem dX7_walled_0 : decode cX7_walled 0 = .ok (.aload_n 0, 1) := by decide +kernel
theorem dX7_walled_1 : decode cX7_walled 1 = .ok (.getfield 7, 3) := by decide +kernel
theorem dX7_walled_4 : decode cX7_walled 4 = .ok (.iconst 5, 1) := by decide +kernel
theorem dX7_walled_5 : decode cX7_walled 5 = .ok (.iaload, 1) := by decide +kernel
theorem dX7_walled_6 : decode cX7_walled 6 = .ok (.istore_n 1, 1) := by decide +kernel
theorem dX7_walled_7 : decode cX7_walled 7 = .ok (.aload_n 0, 1) := by decide +kernel
theorem dX7_walled_8 : decode cX7_walled 8 = .ok (.getfield 7, 3) := by decide +kernel
theorem dX7_walled_11 : decode cX7_walled 11 = .ok (.iconst 5, 1) := by decide +kernel
theorem dX7_walled_12 : decode cX7_walled 12 = .ok (.iconst 0, 1) := by decide +kernel
theorem dX7_walled_13 : decode cX7_walled 13 = .ok (.iastore, 1) := by decide +kernel
theorem dX7_walled_14 : decode cX7_walled 14 = .ok (.aload_n 0, 1) := by decide +kernel
theorem dX7_walled_15 : decode cX7_walled 15 = .ok (.invokevirtual 190, 3) := by decide +kernel
theorem dX7_walled_18 : decode cX7_walled 18 = .ok (.aload_n 0, 1) := by decide +kernel
theorem dX7_walled_19 : decode cX7_walled 19 = .ok (.getfield 7, 3) := by decide +kernel
theorem dX7_walled_22 : decode cX7_walled 22 = .ok (.iconst 5, 1) := by decide +kernel
theorem dX7_walled_23 : decode cX7_walled 23 = .ok (.iconst 1, 1) := by decide +kernel
theorem dX7_walled_24 : decode cX7_walled 24 = .ok (.iastore, 1) := by decide +kernel
theorem dX7_walled_25 : decode cX7_walled 25 = .ok (.aload_n 0, 1) := by decide +kernel
theorem dX7_walled_26 : decode cX7_walled 26 = .ok (.invokevirtual 193, 3) := by decide +kernel
theorem dX7_walled_29 : decode cX7_walled 29 = .ok (.istore_n 2, 1) := by decide +kernel
theorem dX7_walled_30 : decode cX7_walled 30 = .ok (.aload_n 0, 1) := by decide +kernel
theorem dX7_walled_31 : decode cX7_walled 31 = .ok (.getfield 7, 3) := by decide +kernel
theorem dX7_walled_34 : decode cX7_walled 34 = .ok (.iconst 5, 1) := by decide +kernel
theorem dX7_walled_35 : decode cX7_walled 35 = .ok (.iload_n 1, 1) := by decide +kernel
theorem dX7_walled_36 : decode cX7_walled 36 = .ok (.iastore, 1) := by decide +kernel
theorem dX7_walled_37 : decode cX7_walled 37 = .ok (.iload_n 2, 1) := by decide +kernel
theorem dX7_walled_38 : decode cX7_walled 38 = .ok (.ireturn, 1) := by decide +kernel
set_option maxRecDepth 20000 in
theorem ggX7_law_X7_in : GoodIn wsX7_law wsX7_in := goodIn_r _ [7] (by decide +kernel) (by decide +kernel)
set_option maxRecDepth 20000 in
theorem gX7_law_X7_in : GoodIn wsX7_law (va_wsS RX7 58 yX7_in wsX7_in) := goodIn_app (goodIn_of _ (by decide +kernel)) ggX7_law_X7_in
set_option maxRecDepth 20000 in
theorem ggX7_law_X7_finds : GoodIn wsX7_law wsX7_finds := goodIn_r _ [11, 12, 13, 62, 63, 64, 65, 66, 67, 68, 69, 70, 71, 72, 73, 74, 75, 76, 77, 78, 79, 80, 81, 82, 83, 84, 85, 86, 87, 88, 89] (by decide +kernel) (by decide +kernel)
set_option maxRecDepth 20000 in
theorem gX7_law_X7_finds : GoodIn wsX7_law (wsV RX7 106 RX7 yX7_finds wsX7_finds) := goodIn_app (goodIn_of _ (by decide +kernel)) ggX7_law_X7_finds
set_option maxRecDepth 20000 in
theorem ggX7_law_X7_copies : GoodIn wsX7_law wsX7_copies := goodIn_r _ [16] (by decide +kernel) (by decide +kernel)
set_option maxRecDepth 20000 in
theorem gX7_law_X7_copies : GoodIn wsX7_law (va_wsS RX7 183 yX7_copies wsX7_copies) := goodIn_app (goodIn_of _ (by decide +kernel)) ggX7_law_X7_copies
set_option maxRecDepth 20000 in
theorem ggX7_law_X7_listen : GoodIn wsX7_law wsX7_listen := goodIn_r _ [20, 2, 21, 22, 23, 24, 25, 6, 26, 27, 28, 29, 30, 31, 32, 33, 34, 35, 36, 37, 38, 39, 40, 41, 42, 43, 44, 45, 46, 62, 63, 64, 65, 66, 67, 68, 69, 70, 71, 72, 73, 74, 75, 76, 77, 78, 79, 80, 81, 82, 83, 84, 85, 86, 87, 88, 89] (by decide +kernel) (by decide +kernel)
set_option maxRecDepth 20000 in
theorem gX7_law_X7_listen : GoodIn wsX7_law (wsV RX7 120 RX7 yX7_listen wsX7_listen) := goodIn_app (goodIn_of _ (by decide +kernel)) ggX7_law_X7_listen
set_option maxRecDepth 20000 in
theorem ggX7_law_X7_ahead : GoodIn wsX7_law wsX7_ahead := goodIn_r _ [50, 51, 52, 53, 6, 54, 2, 55, 56, 57, 58, 22, 21, 23, 24, 25, 26, 62, 63, 64, 65, 66, 67, 68, 69, 70, 71, 72, 73, 74, 75, 76, 77, 78, 79, 80, 81, 82, 83, 84, 85, 86, 87, 88, 89] (by decide +kernel) (by decide +kernel)
set_option maxRecDepth 20000 in
theorem gX7_law_X7_ahead : GoodIn wsX7_law (wsV RX7 163 RX7 yX7_ahead wsX7_ahead) := goodIn_app (goodIn_of _ (by decide +kernel)) ggX7_law_X7_ahead
set_option maxRecDepth 20000 in
theorem ggX7_law_X7_ones : GoodIn wsX7_law wsX7_ones := goodIn_r _ [61] (by decide +kernel) (by decide +kernel)
set_option maxRecDepth 20000 in
theorem gX7_law_X7_ones : GoodIn wsX7_law (va_wsS RX7 148 yX7_ones wsX7_ones) := goodIn_app (goodIn_of _ (by decide +kernel)) ggX7_law_X7_ones
theorem dX7_law_0 : decode cX7_law 0 = .ok (.iload_n 1, 1) := by decide +kernel
theorem dX7_law_1 : decode cX7_law 1 = .ok (.i2l, 1) := by decide +kernel
theorem dX7_law_2 : decode cX7_law 2 = .ok (.lconst 1, 1) := by decide +kernel
theorem dX7_law_3 : decode cX7_law 3 = .ok (.ldc2_w 175, 3) := by decide +kernel
theorem dX7_law_6 : decode cX7_law 6 = .ok (.invokestatic 58, 3) := by decide +kernel
theorem dX7_law_9 : decode cX7_law 9 = .ok (.ifCond .ne 9, 3) := by decide +kernel
theorem dX7_law_12 : decode cX7_law 12 = .ok (.aload_n 0, 1) := by decide +kernel
theorem dX7_law_13 : decode cX7_law 13 = .ok (.iconst 0, 1) := by decide +kernel
theorem dX7_law_14 : decode cX7_law 14 = .ok (.invokevirtual 106, 3) := by decide +kernel
theorem dX7_law_17 : decode cX7_law 17 = .ok (.ireturn, 1) := by decide +kernel
theorem dX7_law_18 : decode cX7_law 18 = .ok (.aload_n 0, 1) := by decide +kernel
theorem dX7_law_19 : decode cX7_law 19 = .ok (.getfield 7, 3) := by decide +kernel
theorem dX7_law_22 : decode cX7_law 22 = .ok (.aload_n 0, 1) := by decide +kernel
theorem dX7_law_23 : decode cX7_law 23 = .ok (.getfield 13, 3) := by decide +kernel
theorem dX7_law_26 : decode cX7_law 26 = .ok (.invokestatic 183, 3) := by decide +kernel
theorem dX7_law_29 : decode cX7_law 29 = .ok (.iconst 0, 1) := by decide +kernel
theorem dX7_law_30 : decode cX7_law 30 = .ok (.istore_n 2, 1) := by decide +kernel
theorem dX7_law_31 : decode cX7_law 31 = .ok (.iconst (-1), 1) := by decide +kernel
theorem dX7_law_32 : decode cX7_law 32 = .ok (.istore_n 3, 1) := by decide +kernel
theorem dX7_law_33 : decode cX7_law 33 = .ok (.iconst 0, 1) := by decide +kernel
theorem dX7_law_34 : decode cX7_law 34 = .ok (.istore 4, 2) := by decide +kernel
theorem dX7_law_36 : decode cX7_law 36 = .ok (.iload 4, 2) := by decide +kernel
theorem dX7_law_38 : decode cX7_law 38 = .ok (.bipush 6, 2) := by decide +kernel
theorem dX7_law_40 : decode cX7_law 40 = .ok (.if_icmp .gt 88, 3) := by decide +kernel
theorem dX7_law_43 : decode cX7_law 43 = .ok (.iconst 0, 1) := by decide +kernel
theorem dX7_law_44 : decode cX7_law 44 = .ok (.istore 5, 2) := by decide +kernel
theorem dX7_law_46 : decode cX7_law 46 = .ok (.iload 5, 2) := by decide +kernel
theorem dX7_law_48 : decode cX7_law 48 = .ok (.aload_n 0, 1) := by decide +kernel
theorem dX7_law_49 : decode cX7_law 49 = .ok (.getfield 7, 3) := by decide +kernel
theorem dX7_law_52 : decode cX7_law 52 = .ok (.iconst 0, 1) := by decide +kernel
theorem dX7_law_53 : decode cX7_law 53 = .ok (.iaload, 1) := by decide +kernel
theorem dX7_law_54 : decode cX7_law 54 = .ok (.if_icmp .ge 21, 3) := by decide +kernel
theorem dX7_law_57 : decode cX7_law 57 = .ok (.aload_n 0, 1) := by decide +kernel
theorem dX7_law_58 : decode cX7_law 58 = .ok (.getfield 7, 3) := by decide +kernel
theorem dX7_law_61 : decode cX7_law 61 = .ok (.bipush 10, 2) := by decide +kernel
theorem dX7_law_63 : decode cX7_law 63 = .ok (.iload 5, 2) := by decide +kernel
theorem dX7_law_65 : decode cX7_law 65 = .ok (.iadd, 1) := by decide +kernel
theorem dX7_law_66 : decode cX7_law 66 = .ok (.iload 4, 2) := by decide +kernel
theorem dX7_law_68 : decode cX7_law 68 = .ok (.iastore, 1) := by decide +kernel
theorem dX7_law_69 : decode cX7_law 69 = .ok (.iinc 5 1, 3) := by decide +kernel
theorem dX7_law_72 : decode cX7_law 72 = .ok (.goto (-26), 3) := by decide +kernel
theorem dX7_law_75 : decode cX7_law 75 = .ok (.aload_n 0, 1) := by decide +kernel
theorem dX7_law_76 : decode cX7_law 76 = .ok (.invokevirtual 120, 3) := by decide +kernel
theorem dX7_law_79 : decode cX7_law 79 = .ok (.aload_n 0, 1) := by decide +kernel
theorem dX7_law_80 : decode cX7_law 80 = .ok (.aload_n 0, 1) := by decide +kernel
theorem dX7_law_81 : decode cX7_law 81 = .ok (.getfield 7, 3) := by decide +kernel
theorem dX7_law_84 : decode cX7_law 84 = .ok (.bipush 6, 2) := by decide +kernel
theorem dX7_law_86 : decode cX7_law 86 = .ok (.iaload, 1) := by decide +kernel
theorem dX7_law_87 : decode cX7_law 87 = .ok (.iload_n 1, 1) := by decide +kernel
theorem dX7_law_88 : decode cX7_law 88 = .ok (.invokevirtual 163, 3) := by decide +kernel
theorem dX7_law_91 : decode cX7_law 91 = .ok (.invokestatic 148, 3) := by decide +kernel
theorem dX7_law_94 : decode cX7_law 94 = .ok (.istore 5, 2) := by decide +kernel
theorem dX7_law_96 : decode cX7_law 96 = .ok (.iload 5, 2) := by decide +kernel
theorem dX7_law_98 : decode cX7_law 98 = .ok (.iload_n 3, 1) := by decide +kernel
theorem dX7_law_99 : decode cX7_law 99 = .ok (.if_icmp .le 8, 3) := by decide +kernel
theorem dX7_law_102 : decode cX7_law 102 = .ok (.iload 4, 2) := by decide +kernel
theorem dX7_law_104 : decode cX7_law 104 = .ok (.goto 4, 3) := by decide +kernel
theorem dX7_law_107 : decode cX7_law 107 = .ok (.iload_n 2, 1) := by decide +kernel
theorem dX7_law_108 : decode cX7_law 108 = .ok (.istore_n 2, 1) := by decide +kernel
theorem dX7_law_109 : decode cX7_law 109 = .ok (.iload 5, 2) := by decide +kernel
theorem dX7_law_111 : decode cX7_law 111 = .ok (.iload_n 3, 1) := by decide +kernel
theorem dX7_law_112 : decode cX7_law 112 = .ok (.if_icmp .le 8, 3) := by decide +kernel
theorem dX7_law_115 : decode cX7_law 115 = .ok (.iload 5, 2) := by decide +kernel
theorem dX7_law_117 : decode cX7_law 117 = .ok (.goto 4, 3) := by decide +kernel
theorem dX7_law_120 : decode cX7_law 120 = .ok (.iload_n 3, 1) := by decide +kernel
theorem dX7_law_121 : decode cX7_law 121 = .ok (.istore_n 3, 1) := by decide +kernel
theorem dX7_law_122 : decode cX7_law 122 = .ok (.iinc 4 1, 3) := by decide +kernel
theorem dX7_law_125 : decode cX7_law 125 = .ok (.goto (-89), 3) := by decide +kernel
theorem dX7_law_128 : decode cX7_law 128 = .ok (.aload_n 0, 1) := by decide +kernel
theorem dX7_law_129 : decode cX7_law 129 = .ok (.getfield 13, 3) := by decide +kernel
theorem dX7_law_132 : decode cX7_law 132 = .ok (.aload_n 0, 1) := by decide +kernel
theorem dX7_law_133 : decode cX7_law 133 = .ok (.getfield 7, 3) := by decide +kernel
theorem dX7_law_136 : decode cX7_law 136 = .ok (.invokestatic 183, 3) := by decide +kernel
theorem dX7_law_139 : decode cX7_law 139 = .ok (.iload_n 2, 1) := by decide +kernel
theorem dX7_law_140 : decode cX7_law 140 = .ok (.ireturn, 1) := by decide +kernel
set_option maxRecDepth 20000 in
theorem ggX7_heard_X7_in : GoodIn wsX7_heard wsX7_in := goodIn_r _ [6] (by decide +kernel) (by decide +kernel)
set_option maxRecDepth 20000 in
theorem gX7_heard_X7_in : GoodIn wsX7_heard (va_wsS RX7 58 yX7_in wsX7_in) := goodIn_app (goodIn_of _ (by decide +kernel)) ggX7_heard_X7_in
set_option maxRecDepth 20000 in
theorem ggX7_heard_X7_finds : GoodIn wsX7_heard wsX7_finds := goodIn_r _ [10, 11, 12, 58, 59, 60, 61, 62, 63, 64, 65, 66, 67, 68, 69, 70, 71, 72, 73, 74, 75, 76, 77, 78, 79, 80, 81, 82, 83, 84, 85] (by decide +kernel) (by decide +kernel)
set_option maxRecDepth 20000 in
theorem gX7_heard_X7_finds : GoodIn wsX7_heard (wsV RX7 106 RX7 yX7_finds wsX7_finds) := goodIn_app (goodIn_of _ (by decide +kernel)) ggX7_heard_X7_finds
set_option maxRecDepth 20000 in
theorem ggX7_heard_X7_listen : GoodIn wsX7_heard wsX7_listen := goodIn_r _ [16, 2, 17, 18, 19, 20, 21, 5, 22, 23, 24, 25, 26, 27, 28, 29, 30, 31, 32, 33, 34, 35, 36, 37, 38, 39, 40, 41, 42, 58, 59, 60, 61, 62, 63, 64, 65, 66, 67, 68, 69, 70, 71, 72, 73, 74, 75, 76, 77, 78, 79, 80, 81, 82, 83, 84, 85] (by decide +kernel) (by decide +kernel)
set_option maxRecDepth 20000 in
theorem gX7_heard_X7_listen : GoodIn wsX7_heard (wsV RX7 120 RX7 yX7_listen wsX7_listen) := goodIn_app (goodIn_of _ (by decide +kernel)) ggX7_heard_X7_listen
set_option maxRecDepth 20000 in
theorem ggX7_heard_X7_ahead : GoodIn wsX7_heard wsX7_ahead := goodIn_r _ [46, 47, 48, 49, 5, 50, 2, 51, 52, 53, 54, 18, 17, 19, 20, 21, 22, 58, 59, 60, 61, 62, 63, 64, 65, 66, 67, 68, 69, 70, 71, 72, 73, 74, 75, 76, 77, 78, 79, 80, 81, 82, 83, 84, 85] (by decide +kernel) (by decide +kernel)
set_option maxRecDepth 20000 in
theorem gX7_heard_X7_ahead : GoodIn wsX7_heard (wsV RX7 163 RX7 yX7_ahead wsX7_ahead) := goodIn_app (goodIn_of _ (by decide +kernel)) ggX7_heard_X7_ahead
set_option maxRecDepth 20000 in
theorem ggX7_heard_X7_ones : GoodIn wsX7_heard wsX7_ones := goodIn_r _ [57] (by decide +kernel) (by decide +kernel)
set_option maxRecDepth 20000 in
theorem gX7_heard_X7_ones : GoodIn wsX7_heard (va_wsS RX7 148 yX7_ones wsX7_ones) := goodIn_app (goodIn_of _ (by decide +kernel)) ggX7_heard_X7_ones
theorem dX7_heard_0 : decode cX7_heard 0 = .ok (.iload_n 1, 1) := by decide +kernel
theorem dX7_heard_1 : decode cX7_heard 1 = .ok (.i2l, 1) := by decide +kernel
theorem dX7_heard_2 : decode cX7_heard 2 = .ok (.lconst 1, 1) := by decide +kernel
theorem dX7_heard_3 : decode cX7_heard 3 = .ok (.ldc2_w 175, 3) := by decide +kernel
theorem dX7_heard_6 : decode cX7_heard 6 = .ok (.invokestatic 58, 3) := by decide +kernel
theorem dX7_heard_9 : decode cX7_heard 9 = .ok (.ifCond .ne 9, 3) := by decide +kernel
theorem dX7_heard_12 : decode cX7_heard 12 = .ok (.aload_n 0, 1) := by decide +kernel
theorem dX7_heard_13 : decode cX7_heard 13 = .ok (.iconst 0, 1) := by decide +kernel
theorem dX7_heard_14 : decode cX7_heard 14 = .ok (.invokevirtual 106, 3) := by decide +kernel
theorem dX7_heard_17 : decode cX7_heard 17 = .ok (.ireturn, 1) := by decide +kernel
theorem dX7_heard_18 : decode cX7_heard 18 = .ok (.aload_n 0, 1) := by decide +kernel
theorem dX7_heard_19 : decode cX7_heard 19 = .ok (.getfield 7, 3) := by decide +kernel
theorem dX7_heard_22 : decode cX7_heard 22 = .ok (.iconst 0, 1) := by decide +kernel
theorem dX7_heard_23 : decode cX7_heard 23 = .ok (.iaload, 1) := by decide +kernel
theorem dX7_heard_24 : decode cX7_heard 24 = .ok (.ifCond .ne 9, 3) := by decide +kernel
theorem dX7_heard_27 : decode cX7_heard 27 = .ok (.aload_n 0, 1) := by decide +kernel
theorem dX7_heard_28 : decode cX7_heard 28 = .ok (.iconst 3, 1) := by decide +kernel
theorem dX7_heard_29 : decode cX7_heard 29 = .ok (.invokevirtual 106, 3) := by decide +kernel
theorem dX7_heard_32 : decode cX7_heard 32 = .ok (.ireturn, 1) := by decide +kernel
theorem dX7_heard_33 : decode cX7_heard 33 = .ok (.aload_n 0, 1) := by decide +kernel
theorem dX7_heard_34 : decode cX7_heard 34 = .ok (.invokevirtual 120, 3) := by decide +kernel
theorem dX7_heard_37 : decode cX7_heard 37 = .ok (.aload_n 0, 1) := by decide +kernel
theorem dX7_heard_38 : decode cX7_heard 38 = .ok (.aload_n 0, 1) := by decide +kernel
theorem dX7_heard_39 : decode cX7_heard 39 = .ok (.getfield 7, 3) := by decide +kernel
theorem dX7_heard_42 : decode cX7_heard 42 = .ok (.bipush 6, 2) := by decide +kernel
theorem dX7_heard_44 : decode cX7_heard 44 = .ok (.iaload, 1) := by decide +kernel
theorem dX7_heard_45 : decode cX7_heard 45 = .ok (.iload_n 1, 1) := by decide +kernel
theorem dX7_heard_46 : decode cX7_heard 46 = .ok (.invokevirtual 163, 3) := by decide +kernel
theorem dX7_heard_49 : decode cX7_heard 49 = .ok (.istore_n 2, 1) := by decide +kernel
theorem dX7_heard_50 : decode cX7_heard 50 = .ok (.iconst 0, 1) := by decide +kernel
theorem dX7_heard_51 : decode cX7_heard 51 = .ok (.istore_n 3, 1) := by decide +kernel
theorem dX7_heard_52 : decode cX7_heard 52 = .ok (.iconst (-1), 1) := by decide +kernel
theorem dX7_heard_53 : decode cX7_heard 53 = .ok (.istore 4, 2) := by decide +kernel
theorem dX7_heard_55 : decode cX7_heard 55 = .ok (.iconst 0, 1) := by decide +kernel
theorem dX7_heard_56 : decode cX7_heard 56 = .ok (.istore 5, 2) := by decide +kernel
theorem dX7_heard_58 : decode cX7_heard 58 = .ok (.iload 5, 2) := by decide +kernel
theorem dX7_heard_60 : decode cX7_heard 60 = .ok (.aload_n 0, 1) := by decide +kernel
theorem dX7_heard_61 : decode cX7_heard 61 = .ok (.getfield 7, 3) := by decide +kernel
theorem dX7_heard_64 : decode cX7_heard 64 = .ok (.iconst 0, 1) := by decide +kernel
theorem dX7_heard_65 : decode cX7_heard 65 = .ok (.iaload, 1) := by decide +kernel
theorem dX7_heard_66 : decode cX7_heard 66 = .ok (.if_icmp .ge 70, 3) := by decide +kernel
theorem dX7_heard_69 : decode cX7_heard 69 = .ok (.aload_n 0, 1) := by decide +kernel
theorem dX7_heard_70 : decode cX7_heard 70 = .ok (.aload_n 0, 1) := by decide +kernel
theorem dX7_heard_71 : decode cX7_heard 71 = .ok (.getfield 7, 3) := by decide +kernel
theorem dX7_heard_74 : decode cX7_heard 74 = .ok (.bipush 6, 2) := by decide +kernel
theorem dX7_heard_76 : decode cX7_heard 76 = .ok (.iaload, 1) := by decide +kernel
theorem dX7_heard_77 : decode cX7_heard 77 = .ok (.iconst 1, 1) := by decide +kernel
theorem dX7_heard_78 : decode cX7_heard 78 = .ok (.iload 5, 2) := by decide +kernel
theorem dX7_heard_80 : decode cX7_heard 80 = .ok (.ishl, 1) := by decide +kernel
theorem dX7_heard_81 : decode cX7_heard 81 = .ok (.ixor, 1) := by decide +kernel
theorem dX7_heard_82 : decode cX7_heard 82 = .ok (.iload_n 1, 1) := by decide +kernel
theorem dX7_heard_83 : decode cX7_heard 83 = .ok (.invokevirtual 163, 3) := by decide +kernel
theorem dX7_heard_86 : decode cX7_heard 86 = .ok (.iload_n 2, 1) := by decide +kernel
theorem dX7_heard_87 : decode cX7_heard 87 = .ok (.ixor, 1) := by decide +kernel
theorem dX7_heard_88 : decode cX7_heard 88 = .ok (.iconst 1, 1) := by decide +kernel
theorem dX7_heard_89 : decode cX7_heard 89 = .ok (.iload 5, 2) := by decide +kernel
theorem dX7_heard_91 : decode cX7_heard 91 = .ok (.ishl, 1) := by decide +kernel
theorem dX7_heard_92 : decode cX7_heard 92 = .ok (.iconst (-1), 1) := by decide +kernel
theorem dX7_heard_93 : decode cX7_heard 93 = .ok (.ixor, 1) := by decide +kernel
theorem dX7_heard_94 : decode cX7_heard 94 = .ok (.iand, 1) := by decide +kernel
theorem dX7_heard_95 : decode cX7_heard 95 = .ok (.invokestatic 148, 3) := by decide +kernel
theorem dX7_heard_98 : decode cX7_heard 98 = .ok (.istore 6, 2) := by decide +kernel
theorem dX7_heard_100 : decode cX7_heard 100 = .ok (.iload 6, 2) := by decide +kernel
theorem dX7_heard_102 : decode cX7_heard 102 = .ok (.iload 4, 2) := by decide +kernel
theorem dX7_heard_104 : decode cX7_heard 104 = .ok (.if_icmp .le 8, 3) := by decide +kernel
theorem dX7_heard_107 : decode cX7_heard 107 = .ok (.iload 5, 2) := by decide +kernel
theorem dX7_heard_109 : decode cX7_heard 109 = .ok (.goto 4, 3) := by decide +kernel
theorem dX7_heard_112 : decode cX7_heard 112 = .ok (.iload_n 3, 1) := by decide +kernel
theorem dX7_heard_113 : decode cX7_heard 113 = .ok (.istore_n 3, 1) := by decide +kernel
theorem dX7_heard_114 : decode cX7_heard 114 = .ok (.iload 6, 2) := by decide +kernel
theorem dX7_heard_116 : decode cX7_heard 116 = .ok (.iload 4, 2) := by decide +kernel
theorem dX7_heard_118 : decode cX7_heard 118 = .ok (.if_icmp .le 8, 3) := by decide +kernel
theorem dX7_heard_121 : decode cX7_heard 121 = .ok (.iload 6, 2) := by decide +kernel
theorem dX7_heard_123 : decode cX7_heard 123 = .ok (.goto 5, 3) := by decide +kernel
theorem dX7_heard_126 : decode cX7_heard 126 = .ok (.iload 4, 2) := by decide +kernel
theorem dX7_heard_128 : decode cX7_heard 128 = .ok (.istore 4, 2) := by decide +kernel
theorem dX7_heard_130 : decode cX7_heard 130 = .ok (.iinc 5 1, 3) := by decide +kernel
theorem dX7_heard_133 : decode cX7_heard 133 = .ok (.goto (-75), 3) := by decide +kernel
theorem dX7_heard_136 : decode cX7_heard 136 = .ok (.iload_n 3, 1) := by decide +kernel
theorem dX7_heard_137 : decode cX7_heard 137 = .ok (.ireturn, 1) := by decide +kernel
set_option maxRecDepth 20000 in
theorem ggX7_areTents_X7_in : GoodIn wsX7_areTents wsX7_in := goodIn_r _ [5] (by decide +kernel) (by decide +kernel)
set_option maxRecDepth 20000 in
theorem gX7_areTents_X7_in : GoodIn wsX7_areTents (va_wsS RX7 58 yX7_in wsX7_in) := goodIn_app (goodIn_of _ (by decide +kernel)) ggX7_areTents_X7_in
theorem dX7_areTents_0 : decode cX7_areTents 0 = .ok (.iload_n 1, 1) := by decide +kernel
theorem dX7_areTents_1 : decode cX7_areTents 1 = .ok (.i2l, 1) := by decide +kernel
theorem dX7_areTents_2 : decode cX7_areTents 2 = .ok (.lconst 0, 1) := by decide +kernel
theorem dX7_areTents_3 : decode cX7_areTents 3 = .ok (.iconst 1, 1) := by decide +kernel
theorem dX7_areTents_4 : decode cX7_areTents 4 = .ok (.aload_n 0, 1) := by decide +kernel
theorem dX7_areTents_5 : decode cX7_areTents 5 = .ok (.getfield 7, 3) := by decide +kernel
theorem dX7_areTents_8 : decode cX7_areTents 8 = .ok (.iconst 0, 1) := by decide +kernel
theorem dX7_areTents_9 : decode cX7_areTents 9 = .ok (.iaload, 1) := by decide +kernel
theorem dX7_areTents_10 : decode cX7_areTents 10 = .ok (.ishl, 1) := by decide +kernel
theorem dX7_areTents_11 : decode cX7_areTents 11 = .ok (.iconst 1, 1) := by decide +kernel
theorem dX7_areTents_12 : decode cX7_areTents 12 = .ok (.isub, 1) := by decide +kernel
theorem dX7_areTents_13 : decode cX7_areTents 13 = .ok (.i2l, 1) := by decide +kernel
theorem dX7_areTents_14 : decode cX7_areTents 14 = .ok (.invokestatic 58, 3) := by decide +kernel
theorem dX7_areTents_17 : decode cX7_areTents 17 = .ok (.ireturn, 1) := by decide +kernel
set_option maxRecDepth 20000 in
theorem ggX7_follows_X7_isTent : GoodIn wsX7_follows wsX7_isTent := goodIn_r _ [6, 1, 7, 8, 5, 9, 24, 25, 26, 27, 28, 29, 30, 31, 32, 33, 34, 35, 36, 37, 38, 39, 40, 41, 42, 43, 44, 45, 46, 47, 48, 49, 50, 51] (by decide +kernel) (by decide +kernel)
set_option maxRecDepth 20000 in
theorem gX7_follows_X7_isTent : GoodIn wsX7_follows (wsV RX7 115 RX7 yX7_isTent wsX7_isTent) := goodIn_app (goodIn_of _ (by decide +kernel)) ggX7_follows_X7_isTent
set_option maxRecDepth 20000 in
theorem ggX7_follows_X7_areTents : GoodIn wsX7_follows wsX7_areTents := goodIn_r _ [13, 1, 7, 8, 5, 9, 24, 25, 26, 27, 28, 29, 30, 31, 32, 33, 34, 35, 36, 37, 38, 39, 40, 41, 42, 43, 44, 45, 46, 47, 48, 49, 50, 51] (by decide +kernel) (by decide +kernel)
set_option maxRecDepth 20000 in
theorem gX7_follows_X7_areTents : GoodIn wsX7_follows (wsV RX7 196 RX7 yX7_areTents wsX7_areTents) := goodIn_app (goodIn_of _ (by decide +kernel)) ggX7_follows_X7_areTents
set_option maxRecDepth 20000 in
theorem ggX7_follows_X7_finds : GoodIn wsX7_follows wsX7_finds := goodIn_r _ [17, 18, 19, 24, 25, 26, 27, 28, 29, 30, 31, 32, 33, 34, 35, 36, 37, 38, 39, 40, 41, 42, 43, 44, 45, 46, 47, 48, 49, 50, 51] (by decide +kernel) (by decide +kernel)
set_option maxRecDepth 20000 in
theorem gX7_follows_X7_finds : GoodIn wsX7_follows (wsV RX7 106 RX7 yX7_finds wsX7_finds) := goodIn_app (goodIn_of _ (by decide +kernel)) ggX7_follows_X7_finds
set_option maxRecDepth 20000 in
theorem ggX7_follows_X7_saysNow : GoodIn wsX7_follows wsX7_saysNow := goodIn_r _ [23, 1, 24, 25, 26, 27, 28, 29, 30, 31, 32, 33, 34, 35, 36, 37, 38, 39, 40, 41, 42, 43, 44, 45, 46, 47, 48, 49, 50, 51] (by decide +kernel) (by decide +kernel)
set_option maxRecDepth 20000 in
theorem gX7_follows_X7_saysNow : GoodIn wsX7_follows (wsV RX7 123 RX7 yX7_saysNow wsX7_saysNow) := goodIn_app (goodIn_of _ (by decide +kernel)) ggX7_follows_X7_saysNow
theorem dX7_follows_0 : decode cX7_follows 0 = .ok (.aload_n 0, 1) := by decide +kernel
theorem dX7_follows_1 : decode cX7_follows 1 = .ok (.iload_n 1, 1) := by decide +kernel
theorem dX7_follows_2 : decode cX7_follows 2 = .ok (.invokevirtual 115, 3) := by decide +kernel
theorem dX7_follows_5 : decode cX7_follows 5 = .ok (.ifCond .eq 11, 3) := by decide +kernel
theorem dX7_follows_8 : decode cX7_follows 8 = .ok (.aload_n 0, 1) := by decide +kernel
theorem dX7_follows_9 : decode cX7_follows 9 = .ok (.iload_n 2, 1) := by decide +kernel
theorem dX7_follows_10 : decode cX7_follows 10 = .ok (.invokevirtual 196, 3) := by decide +kernel
theorem dX7_follows_13 : decode cX7_follows 13 = .ok (.ifCond .ne 9, 3) := by decide +kernel
theorem dX7_follows_16 : decode cX7_follows 16 = .ok (.aload_n 0, 1) := by decide +kernel
theorem dX7_follows_17 : decode cX7_follows 17 = .ok (.iconst 0, 1) := by decide +kernel
theorem dX7_follows_18 : decode cX7_follows 18 = .ok (.invokevirtual 106, 3) := by decide +kernel
theorem dX7_follows_21 : decode cX7_follows 21 = .ok (.ireturn, 1) := by decide +kernel
theorem dX7_follows_22 : decode cX7_follows 22 = .ok (.iconst 1, 1) := by decide +kernel
theorem dX7_follows_23 : decode cX7_follows 23 = .ok (.aload_n 0, 1) := by decide +kernel
theorem dX7_follows_24 : decode cX7_follows 24 = .ok (.getfield 7, 3) := by decide +kernel
theorem dX7_follows_27 : decode cX7_follows 27 = .ok (.iconst 0, 1) := by decide +kernel
theorem dX7_follows_28 : decode cX7_follows 28 = .ok (.iaload, 1) := by decide +kernel
theorem dX7_follows_29 : decode cX7_follows 29 = .ok (.ishl, 1) := by decide +kernel
theorem dX7_follows_30 : decode cX7_follows 30 = .ok (.iconst 1, 1) := by decide +kernel
theorem dX7_follows_31 : decode cX7_follows 31 = .ok (.isub, 1) := by decide +kernel
theorem dX7_follows_32 : decode cX7_follows 32 = .ok (.istore_n 3, 1) := by decide +kernel
theorem dX7_follows_33 : decode cX7_follows 33 = .ok (.aload_n 0, 1) := by decide +kernel
theorem dX7_follows_34 : decode cX7_follows 34 = .ok (.iload_n 1, 1) := by decide +kernel
theorem dX7_follows_35 : decode cX7_follows 35 = .ok (.invokevirtual 123, 3) := by decide +kernel
theorem dX7_follows_38 : decode cX7_follows 38 = .ok (.iconst 1, 1) := by decide +kernel
theorem dX7_follows_39 : decode cX7_follows 39 = .ok (.if_icmp .ne 7, 3) := by decide +kernel
theorem dX7_follows_42 : decode cX7_follows 42 = .ok (.iload_n 2, 1) := by decide +kernel
theorem dX7_follows_43 : decode cX7_follows 43 = .ok (.goto 8, 3) := by decide +kernel
theorem dX7_follows_46 : decode cX7_follows 46 = .ok (.iload_n 3, 1) := by decide +kernel
theorem dX7_follows_47 : decode cX7_follows 47 = .ok (.iload_n 2, 1) := by decide +kernel
theorem dX7_follows_48 : decode cX7_follows 48 = .ok (.iconst (-1), 1) := by decide +kernel
theorem dX7_follows_49 : decode cX7_follows 49 = .ok (.ixor, 1) := by decide +kernel
theorem dX7_follows_50 : decode cX7_follows 50 = .ok (.iand, 1) := by decide +kernel
theorem dX7_follows_51 : decode cX7_follows 51 = .ok (.iconst 1, 1) := by decide +kernel
theorem dX7_follows_52 : decode cX7_follows 52 = .ok (.iload_n 1, 1) := by decide +kernel
theorem dX7_follows_53 : decode cX7_follows 53 = .ok (.ishl, 1) := by decide +kernel
theorem dX7_follows_54 : decode cX7_follows 54 = .ok (.iconst (-1), 1) := by decide +kernel
theorem dX7_follows_55 : decode cX7_follows 55 = .ok (.ixor, 1) := by decide +kernel
theorem dX7_follows_56 : decode cX7_follows 56 = .ok (.iand, 1) := by decide +kernel
theorem dX7_follows_57 : decode cX7_follows 57 = .ok (.ireturn, 1) := by decide +kernel
set_option maxRecDepth 20000 in
theorem ggX7_waysOf_X7_listen : GoodIn wsX7_waysOf wsX7_listen := goodIn_r _ [7, 2, 8, 9, 10, 11, 12, 6, 13, 14, 15, 16, 17, 18, 19, 20, 21, 22, 23, 24, 25, 26, 27, 28, 29, 30, 31, 32, 33, 46, 47, 48, 49, 50, 51, 52, 53, 54, 55, 56, 57, 58, 59, 60, 61, 62, 63, 64, 65, 66, 67, 68, 69, 70, 71, 72, 73] (by decide +kernel) (by decide +kernel)
set_option maxRecDepth 20000 in
theorem gX7_waysOf_X7_listen : GoodIn wsX7_waysOf (wsV RX7 120 RX7 yX7_listen wsX7_listen) := goodIn_app (goodIn_of _ (by decide +kernel)) ggX7_waysOf_X7_listen
set_option maxRecDepth 20000 in
theorem ggX7_waysOf_X7_nextOf : GoodIn wsX7_waysOf wsX7_nextOf := goodIn_r _ [37, 2, 38, 39, 40, 6, 41, 9, 8, 10, 11, 12, 13, 46, 47, 48, 49, 50, 51, 52, 53, 54, 55, 56, 57, 58, 59, 60, 61, 62, 63, 64, 65, 66, 67, 68, 69, 70, 71, 72, 73] (by decide +kernel) (by decide +kernel)
set_option maxRecDepth 20000 in
theorem gX7_waysOf_X7_nextOf : GoodIn wsX7_waysOf (wsV RX7 87 RX7 yX7_nextOf wsX7_nextOf) := goodIn_app (goodIn_of _ (by decide +kernel)) ggX7_waysOf_X7_nextOf
set_option maxRecDepth 20000 in
theorem ggX7_waysOf_X7_yard : GoodIn wsX7_waysOf wsX7_yard := goodIn_r _ [22, 2, 46, 47, 48, 49, 50, 51, 52, 53, 54, 55, 56, 57, 58, 59, 60, 61, 62, 63, 64, 65, 66, 67, 68, 69, 70, 71, 72, 73] (by decide +kernel) (by decide +kernel)
set_option maxRecDepth 20000 in
theorem gX7_waysOf_X7_yard : GoodIn wsX7_waysOf (wsV RX7 64 RX7 yX7_yard wsX7_yard) := goodIn_app (goodIn_of _ (by decide +kernel)) ggX7_waysOf_X7_yard
set_option maxRecDepth 20000 in
theorem ggX7_waysOf_X7_size : GoodIn wsX7_waysOf wsX7_size := goodIn_r _ [29] (by decide +kernel) (by decide +kernel)
set_option maxRecDepth 20000 in
theorem gX7_waysOf_X7_size : GoodIn wsX7_waysOf (va_wsS RX7 68 yX7_size wsX7_size) := goodIn_app (goodIn_of _ (by decide +kernel)) ggX7_waysOf_X7_size
set_option maxRecDepth 20000 in
theorem ggX7_waysOf_X7_whoIs : GoodIn wsX7_waysOf wsX7_whoIs := goodIn_r _ [45, 2, 19, 20, 21, 6, 22, 46, 47, 48, 49, 50, 51, 52, 53, 54, 55, 56, 57, 58, 59, 60, 61, 62, 63, 64, 65, 66, 67, 68, 69, 70, 71, 72, 73] (by decide +kernel) (by decide +kernel)
set_option maxRecDepth 20000 in
theorem gX7_waysOf_X7_whoIs : GoodIn wsX7_waysOf (wsV RX7 109 RX7 yX7_whoIs wsX7_whoIs) := goodIn_app (goodIn_of _ (by decide +kernel)) ggX7_waysOf_X7_whoIs
theorem dX7_waysOf_0 : decode cX7_waysOf 0 = .ok (.aload_n 0, 1) := by decide +kernel
theorem dX7_waysOf_1 : decode cX7_waysOf 1 = .ok (.iconst 0, 1) := by decide +kernel
theorem dX7_waysOf_2 : decode cX7_waysOf 2 = .ok (.putfield 199, 3) := by decide +kernel
theorem dX7_waysOf_5 : decode cX7_waysOf 5 = .ok (.aload_n 0, 1) := by decide +kernel
theorem dX7_waysOf_6 : decode cX7_waysOf 6 = .ok (.invokevirtual 120, 3) := by decide +kernel
theorem dX7_waysOf_9 : decode cX7_waysOf 9 = .ok (.iload_n 2, 1) := by decide +kernel
theorem dX7_waysOf_10 : decode cX7_waysOf 10 = .ok (.ifCond .ne 24, 3) := by decide +kernel
theorem dX7_waysOf_13 : decode cX7_waysOf 13 = .ok (.aload_n 0, 1) := by decide +kernel
theorem dX7_waysOf_14 : decode cX7_waysOf 14 = .ok (.aload_n 0, 1) := by decide +kernel
theorem dX7_waysOf_15 : decode cX7_waysOf 15 = .ok (.getfield 7, 3) := by decide +kernel
theorem dX7_waysOf_18 : decode cX7_waysOf 18 = .ok (.bipush 6, 2) := by decide +kernel
theorem dX7_waysOf_20 : decode cX7_waysOf 20 = .ok (.iaload, 1) := by decide +kernel
theorem dX7_waysOf_21 : decode cX7_waysOf 21 = .ok (.invokevirtual 87, 3) := by decide +kernel
theorem dX7_waysOf_24 : decode cX7_waysOf 24 = .ok (.iload_n 1, 1) := by decide +kernel
theorem dX7_waysOf_25 : decode cX7_waysOf 25 = .ok (.if_icmp .ne 7, 3) := by decide +kernel
theorem dX7_waysOf_28 : decode cX7_waysOf 28 = .ok (.iconst 1, 1) := by decide +kernel
theorem dX7_waysOf_29 : decode cX7_waysOf 29 = .ok (.goto 4, 3) := by decide +kernel
theorem dX7_waysOf_32 : decode cX7_waysOf 32 = .ok (.iconst 0, 1) := by decide +kernel
theorem dX7_waysOf_33 : decode cX7_waysOf 33 = .ok (.ireturn, 1) := by decide +kernel
theorem dX7_waysOf_34 : decode cX7_waysOf 34 = .ok (.iconst 0, 1) := by decide +kernel
theorem dX7_waysOf_35 : decode cX7_waysOf 35 = .ok (.istore_n 3, 1) := by decide +kernel
theorem dX7_waysOf_36 : decode cX7_waysOf 36 = .ok (.iconst 0, 1) := by decide +kernel
theorem dX7_waysOf_37 : decode cX7_waysOf 37 = .ok (.istore 4, 2) := by decide +kernel
theorem dX7_waysOf_39 : decode cX7_waysOf 39 = .ok (.iload 4, 2) := by decide +kernel
theorem dX7_waysOf_41 : decode cX7_waysOf 41 = .ok (.aload_n 0, 1) := by decide +kernel
theorem dX7_waysOf_42 : decode cX7_waysOf 42 = .ok (.getfield 7, 3) := by decide +kernel
theorem dX7_waysOf_45 : decode cX7_waysOf 45 = .ok (.iconst 0, 1) := by decide +kernel
theorem dX7_waysOf_46 : decode cX7_waysOf 46 = .ok (.iaload, 1) := by decide +kernel
theorem dX7_waysOf_47 : decode cX7_waysOf 47 = .ok (.if_icmp .ge 165, 3) := by decide +kernel
theorem dX7_waysOf_50 : decode cX7_waysOf 50 = .ok (.aload_n 0, 1) := by decide +kernel
theorem dX7_waysOf_51 : decode cX7_waysOf 51 = .ok (.iload 4, 2) := by decide +kernel
theorem dX7_waysOf_53 : decode cX7_waysOf 53 = .ok (.invokevirtual 64, 3) := by decide +kernel
theorem dX7_waysOf_56 : decode cX7_waysOf 56 = .ok (.istore 5, 2) := by decide +kernel
theorem dX7_waysOf_58 : decode cX7_waysOf 58 = .ok (.iconst 0, 1) := by decide +kernel
theorem dX7_waysOf_59 : decode cX7_waysOf 59 = .ok (.istore 6, 2) := by decide +kernel
theorem dX7_waysOf_61 : decode cX7_waysOf 61 = .ok (.iload 6, 2) := by decide +kernel
theorem dX7_waysOf_63 : decode cX7_waysOf 63 = .ok (.sipush 144, 3) := by decide +kernel
theorem dX7_waysOf_66 : decode cX7_waysOf 66 = .ok (.if_icmp .ge 140, 3) := by decide +kernel
theorem dX7_waysOf_69 : decode cX7_waysOf 69 = .ok (.iload 6, 2) := by decide +kernel
theorem dX7_waysOf_71 : decode cX7_waysOf 71 = .ok (.bipush 12, 2) := by decide +kernel
theorem dX7_waysOf_73 : decode cX7_waysOf 73 = .ok (.irem, 1) := by decide +kernel
theorem dX7_waysOf_74 : decode cX7_waysOf 74 = .ok (.iload 5, 2) := by decide +kernel
theorem dX7_waysOf_76 : decode cX7_waysOf 76 = .ok (.bipush 12, 2) := by decide +kernel
theorem dX7_waysOf_78 : decode cX7_waysOf 78 = .ok (.irem, 1) := by decide +kernel
theorem dX7_waysOf_79 : decode cX7_waysOf 79 = .ok (.isub, 1) := by decide +kernel
theorem dX7_waysOf_80 : decode cX7_waysOf 80 = .ok (.invokestatic 68, 3) := by decide +kernel
theorem dX7_waysOf_83 : decode cX7_waysOf 83 = .ok (.iload_n 2, 1) := by decide +kernel
theorem dX7_waysOf_84 : decode cX7_waysOf 84 = .ok (.if_icmp .gt 35, 3) := by decide +kernel
theorem dX7_waysOf_87 : decode cX7_waysOf 87 = .ok (.iload 6, 2) := by decide +kernel
theorem dX7_waysOf_89 : decode cX7_waysOf 89 = .ok (.bipush 12, 2) := by decide +kernel
theorem dX7_waysOf_91 : decode cX7_waysOf 91 = .ok (.idiv, 1) := by decide +kernel
theorem dX7_waysOf_92 : decode cX7_waysOf 92 = .ok (.iload 5, 2) := by decide +kernel
theorem dX7_waysOf_94 : decode cX7_waysOf 94 = .ok (.bipush 12, 2) := by decide +kernel
theorem dX7_waysOf_96 : decode cX7_waysOf 96 = .ok (.idiv, 1) := by decide +kernel
theorem dX7_waysOf_97 : decode cX7_waysOf 97 = .ok (.isub, 1) := by decide +kernel
theorem dX7_waysOf_98 : decode cX7_waysOf 98 = .ok (.invokestatic 68, 3) := by decide +kernel
theorem dX7_waysOf_101 : decode cX7_waysOf 101 = .ok (.iload_n 2, 1) := by decide +kernel
theorem dX7_waysOf_102 : decode cX7_waysOf 102 = .ok (.if_icmp .gt 17, 3) := by decide +kernel
theorem dX7_waysOf_105 : decode cX7_waysOf 105 = .ok (.aload_n 0, 1) := by decide +kernel
theorem dX7_waysOf_106 : decode cX7_waysOf 106 = .ok (.iload 6, 2) := by decide +kernel
theorem dX7_waysOf_108 : decode cX7_waysOf 108 = .ok (.invokevirtual 109, 3) := by decide +kernel
theorem dX7_waysOf_111 : decode cX7_waysOf 111 = .ok (.iconst (-1), 1) := by decide +kernel
theorem dX7_waysOf_112 : decode cX7_waysOf 112 = .ok (.if_icmp .ne 7, 3) := by decide +kernel
theorem dX7_waysOf_115 : decode cX7_waysOf 115 = .ok (.iconst 1, 1) := by decide +kernel
theorem dX7_waysOf_116 : decode cX7_waysOf 116 = .ok (.goto 4, 3) := by decide +kernel
theorem dX7_waysOf_119 : decode cX7_waysOf 119 = .ok (.iconst 0, 1) := by decide +kernel
theorem dX7_waysOf_120 : decode cX7_waysOf 120 = .ok (.istore 7, 2) := by decide +kernel
theorem dX7_waysOf_122 : decode cX7_waysOf 122 = .ok (.iload 7, 2) := by decide +kernel
theorem dX7_waysOf_124 : decode cX7_waysOf 124 = .ok (.ifCond .ne 6, 3) := by decide +kernel
theorem dX7_waysOf_127 : decode cX7_waysOf 127 = .ok (.goto 73, 3) := by decide +kernel
theorem dX7_waysOf_130 : decode cX7_waysOf 130 = .ok (.aload_n 0, 1) := by decide +kernel
theorem dX7_waysOf_131 : decode cX7_waysOf 131 = .ok (.getfield 7, 3) := by decide +kernel
theorem dX7_waysOf_134 : decode cX7_waysOf 134 = .ok (.bipush 20, 2) := by decide +kernel
theorem dX7_waysOf_136 : decode cX7_waysOf 136 = .ok (.iload 4, 2) := by decide +kernel
theorem dX7_waysOf_138 : decode cX7_waysOf 138 = .ok (.iadd, 1) := by decide +kernel
theorem dX7_waysOf_139 : decode cX7_waysOf 139 = .ok (.iload 6, 2) := by decide +kernel
theorem dX7_waysOf_141 : decode cX7_waysOf 141 = .ok (.iastore, 1) := by decide +kernel
theorem dX7_waysOf_142 : decode cX7_waysOf 142 = .ok (.aload_n 0, 1) := by decide +kernel
theorem dX7_waysOf_143 : decode cX7_waysOf 143 = .ok (.invokevirtual 120, 3) := by decide +kernel
theorem dX7_waysOf_146 : decode cX7_waysOf 146 = .ok (.aload_n 0, 1) := by decide +kernel
theorem dX7_waysOf_147 : decode cX7_waysOf 147 = .ok (.aload_n 0, 1) := by decide +kernel
theorem dX7_waysOf_148 : decode cX7_waysOf 148 = .ok (.getfield 7, 3) := by decide +kernel
theorem dX7_waysOf_151 : decode cX7_waysOf 151 = .ok (.bipush 6, 2) := by decide +kernel
theorem dX7_waysOf_153 : decode cX7_waysOf 153 = .ok (.iaload, 1) := by decide +kernel
theorem dX7_waysOf_154 : decode cX7_waysOf 154 = .ok (.invokevirtual 87, 3) := by decide +kernel
theorem dX7_waysOf_157 : decode cX7_waysOf 157 = .ok (.iload_n 1, 1) := by decide +kernel
theorem dX7_waysOf_158 : decode cX7_waysOf 158 = .ok (.if_icmp .ne 30, 3) := by decide +kernel
theorem dX7_waysOf_161 : decode cX7_waysOf 161 = .ok (.aload_n 0, 1) := by decide +kernel
theorem dX7_waysOf_162 : decode cX7_waysOf 162 = .ok (.iload_n 3, 1) := by decide +kernel
theorem dX7_waysOf_163 : decode cX7_waysOf 163 = .ok (.ifCond .ne 15, 3) := by decide +kernel
theorem dX7_waysOf_166 : decode cX7_waysOf 166 = .ok (.sipush 1000, 3) := by decide +kernel
theorem dX7_waysOf_169 : decode cX7_waysOf 169 = .ok (.iload 4, 2) := by decide +kernel
theorem dX7_waysOf_171 : decode cX7_waysOf 171 = .ok (.imul, 1) := by decide +kernel
theorem dX7_waysOf_172 : decode cX7_waysOf 172 = .ok (.iload 6, 2) := by decide +kernel
theorem dX7_waysOf_174 : decode cX7_waysOf 174 = .ok (.iadd, 1) := by decide +kernel
theorem dX7_waysOf_175 : decode cX7_waysOf 175 = .ok (.goto 7, 3) := by decide +kernel
theorem dX7_waysOf_178 : decode cX7_waysOf 178 = .ok (.aload_n 0, 1) := by decide +kernel
theorem dX7_waysOf_179 : decode cX7_waysOf 179 = .ok (.getfield 199, 3) := by decide +kernel
theorem dX7_waysOf_182 : decode cX7_waysOf 182 = .ok (.putfield 199, 3) := by decide +kernel
theorem dX7_waysOf_185 : decode cX7_waysOf 185 = .ok (.iinc 3 1, 3) := by decide +kernel
theorem dX7_waysOf_188 : decode cX7_waysOf 188 = .ok (.aload_n 0, 1) := by decide +kernel
theorem dX7_waysOf_189 : decode cX7_waysOf 189 = .ok (.getfield 7, 3) := by decide +kernel
theorem dX7_waysOf_192 : decode cX7_waysOf 192 = .ok (.bipush 20, 2) := by decide +kernel
theorem dX7_waysOf_194 : decode cX7_waysOf 194 = .ok (.iload 4, 2) := by decide +kernel
theorem dX7_waysOf_196 : decode cX7_waysOf 196 = .ok (.iadd, 1) := by decide +kernel
theorem dX7_waysOf_197 : decode cX7_waysOf 197 = .ok (.iload 5, 2) := by decide +kernel
theorem dX7_waysOf_199 : decode cX7_waysOf 199 = .ok (.iastore, 1) := by decide +kernel
theorem dX7_waysOf_200 : decode cX7_waysOf 200 = .ok (.iinc 6 1, 3) := by decide +kernel
theorem dX7_waysOf_203 : decode cX7_waysOf 203 = .ok (.goto (-142), 3) := by decide +kernel
theorem dX7_waysOf_206 : decode cX7_waysOf 206 = .ok (.iinc 4 1, 3) := by decide +kernel
theorem dX7_waysOf_209 : decode cX7_waysOf 209 = .ok (.goto (-170), 3) := by decide +kernel
theorem dX7_waysOf_212 : decode cX7_waysOf 212 = .ok (.iload_n 3, 1) := by decide +kernel
theorem dX7_waysOf_213 : decode cX7_waysOf 213 = .ok (.ireturn, 1) := by decide +kernel
set_option maxRecDepth 20000 in
theorem ggX7_moves_X7_areTents : GoodIn wsX7_moves wsX7_areTents := goodIn_r _ [6, 7, 8, 9, 5, 10, 64, 65, 66, 67, 68, 69, 70, 71, 72, 73, 74, 75, 76, 77, 78, 79, 80, 81, 82, 83, 84, 85, 86, 87, 88, 89, 90, 91] (by decide +kernel) (by decide +kernel)
set_option maxRecDepth 20000 in
theorem gX7_moves_X7_areTents : GoodIn wsX7_moves (wsV RX7 196 RX7 yX7_areTents wsX7_areTents) := goodIn_app (goodIn_of _ (by decide +kernel)) ggX7_moves_X7_areTents
set_option maxRecDepth 20000 in
theorem ggX7_moves_X7_in : GoodIn wsX7_moves wsX7_in := goodIn_r _ [10] (by decide +kernel) (by decide +kernel)
set_option maxRecDepth 20000 in
theorem gX7_moves_X7_in : GoodIn wsX7_moves (va_wsS RX7 58 yX7_in wsX7_in) := goodIn_app (goodIn_of _ (by decide +kernel)) ggX7_moves_X7_in
set_option maxRecDepth 20000 in
theorem ggX7_moves_X7_waysOf : GoodIn wsX7_moves wsX7_waysOf := goodIn_r _ [14, 15, 7, 16, 17, 18, 5, 19, 20, 21, 22, 23, 24, 25, 26, 27, 28, 29, 30, 31, 32, 33, 34, 35, 36, 37, 38, 39, 40, 41, 42, 43, 44, 45, 46, 47, 48, 49, 50, 51, 52, 53, 54, 55, 56, 57, 64, 65, 66, 67, 68, 69, 70, 71, 72, 73, 74, 75, 76, 77, 78, 79, 80, 81, 82, 83, 84, 85, 86, 87, 88, 89, 90, 91] (by decide +kernel) (by decide +kernel)
set_option maxRecDepth 20000 in
theorem gX7_moves_X7_waysOf : GoodIn wsX7_moves (wsV RX7 202 RX7 yX7_waysOf wsX7_waysOf) := goodIn_app (goodIn_of _ (by decide +kernel)) ggX7_moves_X7_waysOf
set_option maxRecDepth 20000 in
theorem ggX7_moves_X7_finds : GoodIn wsX7_moves wsX7_finds := goodIn_r _ [61, 62, 63, 64, 65, 66, 67, 68, 69, 70, 71, 72, 73, 74, 75, 76, 77, 78, 79, 80, 81, 82, 83, 84, 85, 86, 87, 88, 89, 90, 91] (by decide +kernel) (by decide +kernel)
set_option maxRecDepth 20000 in
theorem gX7_moves_X7_finds : GoodIn wsX7_moves (wsV RX7 106 RX7 yX7_finds wsX7_finds) := goodIn_app (goodIn_of _ (by decide +kernel)) ggX7_moves_X7_finds
theorem dX7_moves_0 : decode cX7_moves 0 = .ok (.aload_n 0, 1) := by decide +kernel
theorem dX7_moves_1 : decode cX7_moves 1 = .ok (.iload_n 1, 1) := by decide +kernel
theorem dX7_moves_2 : decode cX7_moves 2 = .ok (.invokevirtual 196, 3) := by decide +kernel
theorem dX7_moves_5 : decode cX7_moves 5 = .ok (.ifCond .eq 24, 3) := by decide +kernel
theorem dX7_moves_8 : decode cX7_moves 8 = .ok (.iload_n 2, 1) := by decide +kernel
theorem dX7_moves_9 : decode cX7_moves 9 = .ok (.i2l, 1) := by decide +kernel
theorem dX7_moves_10 : decode cX7_moves 10 = .ok (.lconst 0, 1) := by decide +kernel
theorem dX7_moves_11 : decode cX7_moves 11 = .ok (.ldc2_w 136, 3) := by decide +kernel
theorem dX7_moves_14 : decode cX7_moves 14 = .ok (.invokestatic 58, 3) := by decide +kernel
theorem dX7_moves_17 : decode cX7_moves 17 = .ok (.ifCond .eq 12, 3) := by decide +kernel
theorem dX7_moves_20 : decode cX7_moves 20 = .ok (.aload_n 0, 1) := by decide +kernel
theorem dX7_moves_21 : decode cX7_moves 21 = .ok (.iload_n 1, 1) := by decide +kernel
theorem dX7_moves_22 : decode cX7_moves 22 = .ok (.iload_n 2, 1) := by decide +kernel
theorem dX7_moves_23 : decode cX7_moves 23 = .ok (.invokevirtual 202, 3) := by decide +kernel
theorem dX7_moves_26 : decode cX7_moves 26 = .ok (.goto 8, 3) := by decide +kernel
theorem dX7_moves_29 : decode cX7_moves 29 = .ok (.aload_n 0, 1) := by decide +kernel
theorem dX7_moves_30 : decode cX7_moves 30 = .ok (.iconst 0, 1) := by decide +kernel
theorem dX7_moves_31 : decode cX7_moves 31 = .ok (.invokevirtual 106, 3) := by decide +kernel
theorem dX7_moves_34 : decode cX7_moves 34 = .ok (.ireturn, 1) := by decide +kernel
set_option maxRecDepth 20000 in
theorem ggX7_moved_X7_areTents : GoodIn wsX7_moved wsX7_areTents := goodIn_r _ [7, 8, 9, 10, 6, 11, 64, 65, 66, 67, 68, 69, 70, 71, 72, 73, 74, 75, 76, 77, 78, 79, 80, 81, 82, 83, 84, 85, 86, 87, 88, 89, 90, 91] (by decide +kernel) (by decide +kernel)
set_option maxRecDepth 20000 in
theorem gX7_moved_X7_areTents : GoodIn wsX7_moved (wsV RX7 196 RX7 yX7_areTents wsX7_areTents) := goodIn_app (goodIn_of _ (by decide +kernel)) ggX7_moved_X7_areTents
set_option maxRecDepth 20000 in
theorem ggX7_moved_X7_in : GoodIn wsX7_moved wsX7_in := goodIn_r _ [11] (by decide +kernel) (by decide +kernel)
set_option maxRecDepth 20000 in
theorem gX7_moved_X7_in : GoodIn wsX7_moved (va_wsS RX7 58 yX7_in wsX7_in) := goodIn_app (goodIn_of _ (by decide +kernel)) ggX7_moved_X7_in
set_option maxRecDepth 20000 in
theorem ggX7_moved_X7_finds : GoodIn wsX7_moved wsX7_finds := goodIn_r _ [15, 16, 17, 64, 65, 66, 67, 68, 69, 70, 71, 72, 73, 74, 75, 76, 77, 78, 79, 80, 81, 82, 83, 84, 85, 86, 87, 88, 89, 90, 91] (by decide +kernel) (by decide +kernel)
set_option maxRecDepth 20000 in
theorem gX7_moved_X7_finds : GoodIn wsX7_moved (wsV RX7 106 RX7 yX7_finds wsX7_finds) := goodIn_app (goodIn_of _ (by decide +kernel)) ggX7_moved_X7_finds
set_option maxRecDepth 20000 in
theorem ggX7_moved_X7_waysOf : GoodIn wsX7_moved wsX7_waysOf := goodIn_r _ [21, 2, 8, 22, 23, 24, 6, 25, 26, 27, 28, 29, 30, 31, 32, 33, 34, 35, 36, 37, 38, 39, 40, 41, 42, 43, 44, 45, 46, 47, 48, 49, 50, 51, 52, 53, 54, 55, 56, 57, 58, 59, 60, 61, 62, 63, 64, 65, 66, 67, 68, 69, 70, 71, 72, 73, 74, 75, 76, 77, 78, 79, 80, 81, 82, 83, 84, 85, 86, 87, 88, 89, 90, 91] (by decide +kernel) (by decide +kernel)
set_option maxRecDepth 20000 in
theorem gX7_moved_X7_waysOf : GoodIn wsX7_moved (wsV RX7 202 RX7 yX7_waysOf wsX7_waysOf) := goodIn_app (goodIn_of _ (by decide +kernel)) ggX7_moved_X7_waysOf
theorem dX7_moved_0 : decode cX7_moved 0 = .ok (.aload_n 0, 1) := by decide +kernel
theorem dX7_moved_1 : decode cX7_moved 1 = .ok (.iload_n 1, 1) := by decide +kernel
theorem dX7_moved_2 : decode cX7_moved 2 = .ok (.invokevirtual 196, 3) := by decide +kernel
theorem dX7_moved_5 : decode cX7_moved 5 = .ok (.ifCond .eq 15, 3) := by decide +kernel
theorem dX7_moved_8 : decode cX7_moved 8 = .ok (.iload_n 2, 1) := by decide +kernel
theorem dX7_moved_9 : decode cX7_moved 9 = .ok (.i2l, 1) := by decide +kernel
theorem dX7_moved_10 : decode cX7_moved 10 = .ok (.lconst 0, 1) := by decide +kernel
theorem dX7_moved_11 : decode cX7_moved 11 = .ok (.ldc2_w 136, 3) := by decide +kernel
theorem dX7_moved_14 : decode cX7_moved 14 = .ok (.invokestatic 58, 3) := by decide +kernel
theorem dX7_moved_17 : decode cX7_moved 17 = .ok (.ifCond .ne 9, 3) := by decide +kernel
theorem dX7_moved_20 : decode cX7_moved 20 = .ok (.aload_n 0, 1) := by decide +kernel
theorem dX7_moved_21 : decode cX7_moved 21 = .ok (.iconst 0, 1) := by decide +kernel
theorem dX7_moved_22 : decode cX7_moved 22 = .ok (.invokevirtual 106, 3) := by decide +kernel
theorem dX7_moved_25 : decode cX7_moved 25 = .ok (.ireturn, 1) := by decide +kernel
theorem dX7_moved_26 : decode cX7_moved 26 = .ok (.aload_n 0, 1) := by decide +kernel
theorem dX7_moved_27 : decode cX7_moved 27 = .ok (.iload_n 1, 1) := by decide +kernel
theorem dX7_moved_28 : decode cX7_moved 28 = .ok (.iload_n 2, 1) := by decide +kernel
theorem dX7_moved_29 : decode cX7_moved 29 = .ok (.invokevirtual 202, 3) := by decide +kernel
theorem dX7_moved_32 : decode cX7_moved 32 = .ok (.ifCond .ne 11, 3) := by decide +kernel
theorem dX7_moved_35 : decode cX7_moved 35 = .ok (.aload_n 0, 1) := by decide +kernel
theorem dX7_moved_36 : decode cX7_moved 36 = .ok (.iconst 3, 1) := by decide +kernel
theorem dX7_moved_37 : decode cX7_moved 37 = .ok (.invokevirtual 106, 3) := by decide +kernel
theorem dX7_moved_40 : decode cX7_moved 40 = .ok (.goto 7, 3) := by decide +kernel
theorem dX7_moved_43 : decode cX7_moved 43 = .ok (.aload_n 0, 1) := by decide +kernel
theorem dX7_moved_44 : decode cX7_moved 44 = .ok (.getfield 199, 3) := by decide +kernel
theorem dX7_moved_47 : decode cX7_moved 47 = .ok (.ireturn, 1) := by decide +kernel
theorem dX7_drawn_0 : decode cX7_drawn 0 = .ok (.aload_n 0, 1) := by decide +kernel
theorem dX7_drawn_1 : decode cX7_drawn 1 = .ok (.getfield 7, 3) := by decide +kernel
theorem dX7_drawn_4 : decode cX7_drawn 4 = .ok (.iconst 2, 1) := by decide +kernel
theorem dX7_drawn_5 : decode cX7_drawn 5 = .ok (.aload_n 0, 1) := by decide +kernel
theorem dX7_drawn_6 : decode cX7_drawn 6 = .ok (.getfield 7, 3) := by decide +kernel
theorem dX7_drawn_9 : decode cX7_drawn 9 = .ok (.iconst 2, 1) := by decide +kernel
theorem dX7_drawn_10 : decode cX7_drawn 10 = .ok (.iaload, 1) := by decide +kernel
theorem dX7_drawn_11 : decode cX7_drawn 11 = .ok (.ldc 205, 2) := by decide +kernel
theorem dX7_drawn_13 : decode cX7_drawn 13 = .ok (.imul, 1) := by decide +kernel
theorem dX7_drawn_14 : decode cX7_drawn 14 = .ok (.sipush 12345, 3) := by decide +kernel
theorem dX7_drawn_17 : decode cX7_drawn 17 = .ok (.iadd, 1) := by decide +kernel
theorem dX7_drawn_18 : decode cX7_drawn 18 = .ok (.iastore, 1) := by decide +kernel
theorem dX7_drawn_19 : decode cX7_drawn 19 = .ok (.aload_n 0, 1) := by decide +kernel
theorem dX7_drawn_20 : decode cX7_drawn 20 = .ok (.getfield 7, 3) := by decide +kernel
theorem dX7_drawn_23 : decode cX7_drawn 23 = .ok (.iconst 2, 1) := by decide +kernel
theorem dX7_drawn_24 : decode cX7_drawn 24 = .ok (.iaload, 1) := by decide +kernel
theorem dX7_drawn_25 : decode cX7_drawn 25 = .ok (.bipush 8, 2) := by decide +kernel
theorem dX7_drawn_27 : decode cX7_drawn 27 = .ok (.iushr, 1) := by decide +kernel
theorem dX7_drawn_28 : decode cX7_drawn 28 = .ok (.ireturn, 1) := by decide +kernel
set_option maxRecDepth 20000 in
theorem ggX7_goes_X7_whoIs : GoodIn wsX7_goes wsX7_whoIs := goodIn_r _ [6, 1, 7, 8, 9, 5, 10, 11, 12, 13, 14, 15, 16, 17, 18, 19, 20, 21, 22, 23, 24, 25, 26, 27, 28, 29, 30, 31, 32, 33, 34, 35, 36, 37, 38] (by decide +kernel) (by decide +kernel)
set_option maxRecDepth 20000 in
theorem gX7_goes_X7_whoIs : GoodIn wsX7_goes (wsV RX7 109 RX7 yX7_whoIs wsX7_whoIs) := goodIn_app (goodIn_of _ (by decide +kernel)) ggX7_goes_X7_whoIs
theorem dX7_goes_0 : decode cX7_goes 0 = .ok (.aload_n 0, 1) := by decide +kernel
theorem dX7_goes_1 : decode cX7_goes 1 = .ok (.getfield 7, 3) := by decide +kernel
theorem dX7_goes_4 : decode cX7_goes 4 = .ok (.bipush 20, 2) := by decide +kernel
theorem dX7_goes_6 : decode cX7_goes 6 = .ok (.iload_n 1, 1) := by decide +kernel
theorem dX7_goes_7 : decode cX7_goes 7 = .ok (.iadd, 1) := by decide +kernel
theorem dX7_goes_8 : decode cX7_goes 8 = .ok (.aload_n 0, 1) := by decide +kernel
theorem dX7_goes_9 : decode cX7_goes 9 = .ok (.iload_n 2, 1) := by decide +kernel
theorem dX7_goes_10 : decode cX7_goes 10 = .ok (.invokevirtual 109, 3) := by decide +kernel
theorem dX7_goes_13 : decode cX7_goes 13 = .ok (.iconst (-1), 1) := by decide +kernel
theorem dX7_goes_14 : decode cX7_goes 14 = .ok (.if_icmp .ne 7, 3) := by decide +kernel
theorem dX7_goes_17 : decode cX7_goes 17 = .ok (.iload_n 2, 1) := by decide +kernel
theorem dX7_goes_18 : decode cX7_goes 18 = .ok (.goto 12, 3) := by decide +kernel
theorem dX7_goes_21 : decode cX7_goes 21 = .ok (.aload_n 0, 1) := by decide +kernel
theorem dX7_goes_22 : decode cX7_goes 22 = .ok (.getfield 7, 3) := by decide +kernel
theorem dX7_goes_25 : decode cX7_goes 25 = .ok (.bipush 20, 2) := by decide +kernel
theorem dX7_goes_27 : decode cX7_goes 27 = .ok (.iload_n 1, 1) := by decide +kernel
theorem dX7_goes_28 : decode cX7_goes 28 = .ok (.iadd, 1) := by decide +kernel
theorem dX7_goes_29 : decode cX7_goes 29 = .ok (.iaload, 1) := by decide +kernel
theorem dX7_goes_30 : decode cX7_goes 30 = .ok (.iastore, 1) := by decide +kernel
theorem dX7_goes_31 : decode cX7_goes 31 = .ok (.return_, 1) := by decide +kernel
set_option maxRecDepth 20000 in
theorem ggX7_strew_X7_in : GoodIn wsX7_strew wsX7_in := goodIn_r _ [6] (by decide +kernel) (by decide +kernel)
set_option maxRecDepth 20000 in
theorem gX7_strew_X7_in : GoodIn wsX7_strew (va_wsS RX7 58 yX7_in wsX7_in) := goodIn_app (goodIn_of _ (by decide +kernel)) ggX7_strew_X7_in
set_option maxRecDepth 20000 in
theorem ggX7_strew_X7_finds : GoodIn wsX7_strew wsX7_finds := goodIn_r _ [10, 11, 12, 64, 65, 66, 67, 68, 69, 70, 71, 72, 73, 74, 75, 76, 77, 78, 79, 80, 81, 82, 83, 84, 85, 86, 87, 88, 89, 90, 91] (by decide +kernel) (by decide +kernel)
set_option maxRecDepth 20000 in
theorem gX7_strew_X7_finds : GoodIn wsX7_strew (wsV RX7 106 RX7 yX7_finds wsX7_finds) := goodIn_app (goodIn_of _ (by decide +kernel)) ggX7_strew_X7_finds
set_option maxRecDepth 20000 in
theorem ggX7_strew_X7_drawn : GoodIn wsX7_strew wsX7_drawn := goodIn_r _ [16, 2, 17, 64, 65, 66, 67, 68, 69, 70, 71, 72, 73, 74, 75, 76, 77, 78, 79, 80, 81, 82, 83, 84, 85, 86, 87, 88, 89, 90, 91] (by decide +kernel) (by decide +kernel)
set_option maxRecDepth 20000 in
theorem gX7_strew_X7_drawn : GoodIn wsX7_strew (wsV RX7 208 RX7 yX7_drawn wsX7_drawn) := goodIn_app (goodIn_of _ (by decide +kernel)) ggX7_strew_X7_drawn
set_option maxRecDepth 20000 in
theorem ggX7_strew_X7_goes : GoodIn wsX7_strew wsX7_goes := goodIn_r _ [21, 2, 22, 23, 24, 5, 25, 26, 27, 28, 29, 64, 65, 66, 67, 68, 69, 70, 71, 72, 73, 74, 75, 76, 77, 78, 79, 80, 81, 82, 83, 84, 85, 86, 87, 88, 89, 90, 91] (by decide +kernel) (by decide +kernel)
set_option maxRecDepth 20000 in
theorem gX7_strew_X7_goes : GoodIn wsX7_strew (wsV RX7 211 RX7 yX7_goes wsX7_goes) := goodIn_app (goodIn_of _ (by decide +kernel)) ggX7_strew_X7_goes
set_option maxRecDepth 20000 in
theorem ggX7_strew_X7_listen : GoodIn wsX7_strew wsX7_listen := goodIn_r _ [33, 2, 34, 35, 36, 37, 38, 5, 39, 40, 41, 42, 43, 44, 26, 27, 28, 29, 45, 46, 47, 48, 49, 50, 51, 52, 53, 54, 55, 64, 65, 66, 67, 68, 69, 70, 71, 72, 73, 74, 75, 76, 77, 78, 79, 80, 81, 82, 83, 84, 85, 86, 87, 88, 89, 90, 91] (by decide +kernel) (by decide +kernel)
set_option maxRecDepth 20000 in
theorem gX7_strew_X7_listen : GoodIn wsX7_strew (wsV RX7 120 RX7 yX7_listen wsX7_listen) := goodIn_app (goodIn_of _ (by decide +kernel)) ggX7_strew_X7_listen
set_option maxRecDepth 20000 in
theorem ggX7_strew_X7_pairs : GoodIn wsX7_strew wsX7_pairs := goodIn_r _ [59, 2, 35, 60, 61, 62, 5, 63, 64, 65, 66, 67, 68, 69, 70, 71, 72, 73, 74, 75, 76, 77, 78, 79, 80, 81, 82, 83, 84, 85, 86, 87, 88, 89, 90, 91] (by decide +kernel) (by decide +kernel)
set_option maxRecDepth 20000 in
theorem gX7_strew_X7_pairs : GoodIn wsX7_strew (wsV RX7 151 RX7 yX7_pairs wsX7_pairs) := goodIn_app (goodIn_of _ (by decide +kernel)) ggX7_strew_X7_pairs
theorem dX7_strew_0 : decode cX7_strew 0 = .ok (.iload_n 1, 1) := by decide +kernel
theorem dX7_strew_1 : decode cX7_strew 1 = .ok (.i2l, 1) := by decide +kernel
theorem dX7_strew_2 : decode cX7_strew 2 = .ok (.lconst 1, 1) := by decide +kernel
theorem dX7_strew_3 : decode cX7_strew 3 = .ok (.ldc2_w 206, 3) := by decide +kernel
theorem dX7_strew_6 : decode cX7_strew 6 = .ok (.invokestatic 58, 3) := by decide +kernel
theorem dX7_strew_9 : decode cX7_strew 9 = .ok (.ifCond .ne 9, 3) := by decide +kernel
theorem dX7_strew_12 : decode cX7_strew 12 = .ok (.aload_n 0, 1) := by decide +kernel
theorem dX7_strew_13 : decode cX7_strew 13 = .ok (.iconst 0, 1) := by decide +kernel
theorem dX7_strew_14 : decode cX7_strew 14 = .ok (.invokevirtual 106, 3) := by decide +kernel
theorem dX7_strew_17 : decode cX7_strew 17 = .ok (.ireturn, 1) := by decide +kernel
theorem dX7_strew_18 : decode cX7_strew 18 = .ok (.aload_n 0, 1) := by decide +kernel
theorem dX7_strew_19 : decode cX7_strew 19 = .ok (.getfield 7, 3) := by decide +kernel
theorem dX7_strew_22 : decode cX7_strew 22 = .ok (.iconst 0, 1) := by decide +kernel
theorem dX7_strew_23 : decode cX7_strew 23 = .ok (.iaload, 1) := by decide +kernel
theorem dX7_strew_24 : decode cX7_strew 24 = .ok (.ifCond .ne 9, 3) := by decide +kernel
theorem dX7_strew_27 : decode cX7_strew 27 = .ok (.aload_n 0, 1) := by decide +kernel
theorem dX7_strew_28 : decode cX7_strew 28 = .ok (.iconst 4, 1) := by decide +kernel
theorem dX7_strew_29 : decode cX7_strew 29 = .ok (.invokevirtual 106, 3) := by decide +kernel
theorem dX7_strew_32 : decode cX7_strew 32 = .ok (.ireturn, 1) := by decide +kernel
theorem dX7_strew_33 : decode cX7_strew 33 = .ok (.iconst 0, 1) := by decide +kernel
theorem dX7_strew_34 : decode cX7_strew 34 = .ok (.istore_n 2, 1) := by decide +kernel
theorem dX7_strew_35 : decode cX7_strew 35 = .ok (.iload_n 2, 1) := by decide +kernel
theorem dX7_strew_36 : decode cX7_strew 36 = .ok (.iload_n 1, 1) := by decide +kernel
theorem dX7_strew_37 : decode cX7_strew 37 = .ok (.if_icmp .ge 34, 3) := by decide +kernel
theorem dX7_strew_40 : decode cX7_strew 40 = .ok (.aload_n 0, 1) := by decide +kernel
theorem dX7_strew_41 : decode cX7_strew 41 = .ok (.invokevirtual 208, 3) := by decide +kernel
theorem dX7_strew_44 : decode cX7_strew 44 = .ok (.aload_n 0, 1) := by decide +kernel
theorem dX7_strew_45 : decode cX7_strew 45 = .ok (.getfield 7, 3) := by decide +kernel
theorem dX7_strew_48 : decode cX7_strew 48 = .ok (.iconst 0, 1) := by decide +kernel
theorem dX7_strew_49 : decode cX7_strew 49 = .ok (.iaload, 1) := by decide +kernel
theorem dX7_strew_50 : decode cX7_strew 50 = .ok (.irem, 1) := by decide +kernel
theorem dX7_strew_51 : decode cX7_strew 51 = .ok (.istore_n 3, 1) := by decide +kernel
theorem dX7_strew_52 : decode cX7_strew 52 = .ok (.aload_n 0, 1) := by decide +kernel
theorem dX7_strew_53 : decode cX7_strew 53 = .ok (.iload_n 3, 1) := by decide +kernel
theorem dX7_strew_54 : decode cX7_strew 54 = .ok (.aload_n 0, 1) := by decide +kernel
theorem dX7_strew_55 : decode cX7_strew 55 = .ok (.invokevirtual 208, 3) := by decide +kernel
theorem dX7_strew_58 : decode cX7_strew 58 = .ok (.sipush 144, 3) := by decide +kernel
theorem dX7_strew_61 : decode cX7_strew 61 = .ok (.irem, 1) := by decide +kernel
theorem dX7_strew_62 : decode cX7_strew 62 = .ok (.invokevirtual 211, 3) := by decide +kernel
theorem dX7_strew_65 : decode cX7_strew 65 = .ok (.iinc 2 1, 3) := by decide +kernel
theorem dX7_strew_68 : decode cX7_strew 68 = .ok (.goto (-33), 3) := by decide +kernel
theorem dX7_strew_71 : decode cX7_strew 71 = .ok (.aload_n 0, 1) := by decide +kernel
theorem dX7_strew_72 : decode cX7_strew 72 = .ok (.invokevirtual 120, 3) := by decide +kernel
theorem dX7_strew_75 : decode cX7_strew 75 = .ok (.aload_n 0, 1) := by decide +kernel
theorem dX7_strew_76 : decode cX7_strew 76 = .ok (.invokevirtual 151, 3) := by decide +kernel
theorem dX7_strew_79 : decode cX7_strew 79 = .ok (.ireturn, 1) := by decide +kernel
set_option maxRecDepth 20000 in
theorem ggX7_camps_X7_in : GoodIn wsX7_camps wsX7_in := goodIn_r _ [7] (by decide +kernel) (by decide +kernel)
set_option maxRecDepth 20000 in
theorem gX7_camps_X7_in : GoodIn wsX7_camps (va_wsS RX7 58 yX7_in wsX7_in) := goodIn_app (goodIn_of _ (by decide +kernel)) ggX7_camps_X7_in
set_option maxRecDepth 20000 in
theorem ggX7_camps_X7_finds : GoodIn wsX7_camps wsX7_finds := goodIn_r _ [11, 12, 13, 68, 69, 70, 71, 72, 73, 74, 75, 76, 77, 78, 79, 80, 81, 82, 83, 84, 85, 86, 87, 88, 89, 90, 91, 92, 93, 94, 95] (by decide +kernel) (by decide +kernel)
set_option maxRecDepth 20000 in
theorem gX7_camps_X7_finds : GoodIn wsX7_camps (wsV RX7 106 RX7 yX7_finds wsX7_finds) := goodIn_app (goodIn_of _ (by decide +kernel)) ggX7_camps_X7_finds
set_option maxRecDepth 20000 in
theorem ggX7_camps_X7_copies : GoodIn wsX7_camps wsX7_copies := goodIn_r _ [16] (by decide +kernel) (by decide +kernel)
set_option maxRecDepth 20000 in
theorem gX7_camps_X7_copies : GoodIn wsX7_camps (va_wsS RX7 183 yX7_copies wsX7_copies) := goodIn_app (goodIn_of _ (by decide +kernel)) ggX7_camps_X7_copies
set_option maxRecDepth 20000 in
theorem ggX7_camps_X7_drawn : GoodIn wsX7_camps wsX7_drawn := goodIn_r _ [20, 2, 21, 68, 69, 70, 71, 72, 73, 74, 75, 76, 77, 78, 79, 80, 81, 82, 83, 84, 85, 86, 87, 88, 89, 90, 91, 92, 93, 94, 95] (by decide +kernel) (by decide +kernel)
set_option maxRecDepth 20000 in
theorem gX7_camps_X7_drawn : GoodIn wsX7_camps (wsV RX7 208 RX7 yX7_drawn wsX7_drawn) := goodIn_app (goodIn_of _ (by decide +kernel)) ggX7_camps_X7_drawn
set_option maxRecDepth 20000 in
theorem ggX7_camps_X7_goes : GoodIn wsX7_camps wsX7_goes := goodIn_r _ [25, 2, 26, 27, 28, 6, 29, 30, 31, 32, 33, 68, 69, 70, 71, 72, 73, 74, 75, 76, 77, 78, 79, 80, 81, 82, 83, 84, 85, 86, 87, 88, 89, 90, 91, 92, 93, 94, 95] (by decide +kernel) (by decide +kernel)
set_option maxRecDepth 20000 in
theorem gX7_camps_X7_goes : GoodIn wsX7_camps (wsV RX7 211 RX7 yX7_goes wsX7_goes) := goodIn_app (goodIn_of _ (by decide +kernel)) ggX7_camps_X7_goes
set_option maxRecDepth 20000 in
theorem ggX7_camps_X7_listen : GoodIn wsX7_camps wsX7_listen := goodIn_r _ [37, 2, 38, 39, 40, 41, 42, 6, 43, 44, 45, 46, 47, 48, 30, 31, 32, 33, 49, 50, 51, 52, 53, 54, 55, 56, 57, 58, 59, 68, 69, 70, 71, 72, 73, 74, 75, 76, 77, 78, 79, 80, 81, 82, 83, 84, 85, 86, 87, 88, 89, 90, 91, 92, 93, 94, 95] (by decide +kernel) (by decide +kernel)
set_option maxRecDepth 20000 in
theorem gX7_camps_X7_listen : GoodIn wsX7_camps (wsV RX7 120 RX7 yX7_listen wsX7_listen) := goodIn_app (goodIn_of _ (by decide +kernel)) ggX7_camps_X7_listen
set_option maxRecDepth 20000 in
theorem ggX7_camps_X7_pairs : GoodIn wsX7_camps wsX7_pairs := goodIn_r _ [63, 2, 39, 64, 65, 66, 6, 67, 68, 69, 70, 71, 72, 73, 74, 75, 76, 77, 78, 79, 80, 81, 82, 83, 84, 85, 86, 87, 88, 89, 90, 91, 92, 93, 94, 95] (by decide +kernel) (by decide +kernel)
set_option maxRecDepth 20000 in
theorem gX7_camps_X7_pairs : GoodIn wsX7_camps (wsV RX7 151 RX7 yX7_pairs wsX7_pairs) := goodIn_app (goodIn_of _ (by decide +kernel)) ggX7_camps_X7_pairs
theorem dX7_camps_0 : decode cX7_camps 0 = .ok (.iload_n 1, 1) := by decide +kernel
theorem dX7_camps_1 : decode cX7_camps 1 = .ok (.i2l, 1) := by decide +kernel
theorem dX7_camps_2 : decode cX7_camps 2 = .ok (.lconst 1, 1) := by decide +kernel
theorem dX7_camps_3 : decode cX7_camps 3 = .ok (.ldc2_w 206, 3) := by decide +kernel
theorem dX7_camps_6 : decode cX7_camps 6 = .ok (.invokestatic 58, 3) := by decide +kernel
theorem dX7_camps_9 : decode cX7_camps 9 = .ok (.ifCond .ne 9, 3) := by decide +kernel
theorem dX7_camps_12 : decode cX7_camps 12 = .ok (.aload_n 0, 1) := by decide +kernel
theorem dX7_camps_13 : decode cX7_camps 13 = .ok (.iconst 0, 1) := by decide +kernel
theorem dX7_camps_14 : decode cX7_camps 14 = .ok (.invokevirtual 106, 3) := by decide +kernel
theorem dX7_camps_17 : decode cX7_camps 17 = .ok (.ireturn, 1) := by decide +kernel
theorem dX7_camps_18 : decode cX7_camps 18 = .ok (.aload_n 0, 1) := by decide +kernel
theorem dX7_camps_19 : decode cX7_camps 19 = .ok (.getfield 7, 3) := by decide +kernel
theorem dX7_camps_22 : decode cX7_camps 22 = .ok (.iconst 0, 1) := by decide +kernel
theorem dX7_camps_23 : decode cX7_camps 23 = .ok (.iaload, 1) := by decide +kernel
theorem dX7_camps_24 : decode cX7_camps 24 = .ok (.ifCond .ne 9, 3) := by decide +kernel
theorem dX7_camps_27 : decode cX7_camps 27 = .ok (.aload_n 0, 1) := by decide +kernel
theorem dX7_camps_28 : decode cX7_camps 28 = .ok (.iconst 4, 1) := by decide +kernel
theorem dX7_camps_29 : decode cX7_camps 29 = .ok (.invokevirtual 106, 3) := by decide +kernel
theorem dX7_camps_32 : decode cX7_camps 32 = .ok (.ireturn, 1) := by decide +kernel
theorem dX7_camps_33 : decode cX7_camps 33 = .ok (.aload_n 0, 1) := by decide +kernel
theorem dX7_camps_34 : decode cX7_camps 34 = .ok (.getfield 7, 3) := by decide +kernel
theorem dX7_camps_37 : decode cX7_camps 37 = .ok (.aload_n 0, 1) := by decide +kernel
theorem dX7_camps_38 : decode cX7_camps 38 = .ok (.getfield 13, 3) := by decide +kernel
theorem dX7_camps_41 : decode cX7_camps 41 = .ok (.invokestatic 183, 3) := by decide +kernel
theorem dX7_camps_44 : decode cX7_camps 44 = .ok (.iconst 0, 1) := by decide +kernel
theorem dX7_camps_45 : decode cX7_camps 45 = .ok (.istore_n 2, 1) := by decide +kernel
theorem dX7_camps_46 : decode cX7_camps 46 = .ok (.iconst 0, 1) := by decide +kernel
theorem dX7_camps_47 : decode cX7_camps 47 = .ok (.istore_n 3, 1) := by decide +kernel
theorem dX7_camps_48 : decode cX7_camps 48 = .ok (.iload_n 3, 1) := by decide +kernel
theorem dX7_camps_49 : decode cX7_camps 49 = .ok (.iload_n 1, 1) := by decide +kernel
theorem dX7_camps_50 : decode cX7_camps 50 = .ok (.if_icmp .ge 54, 3) := by decide +kernel
theorem dX7_camps_53 : decode cX7_camps 53 = .ok (.iconst 0, 1) := by decide +kernel
theorem dX7_camps_54 : decode cX7_camps 54 = .ok (.istore 4, 2) := by decide +kernel
theorem dX7_camps_56 : decode cX7_camps 56 = .ok (.iload 4, 2) := by decide +kernel
theorem dX7_camps_58 : decode cX7_camps 58 = .ok (.aload_n 0, 1) := by decide +kernel
theorem dX7_camps_59 : decode cX7_camps 59 = .ok (.getfield 7, 3) := by decide +kernel
theorem dX7_camps_62 : decode cX7_camps 62 = .ok (.iconst 0, 1) := by decide +kernel
theorem dX7_camps_63 : decode cX7_camps 63 = .ok (.iaload, 1) := by decide +kernel
theorem dX7_camps_64 : decode cX7_camps 64 = .ok (.if_icmp .ge 23, 3) := by decide +kernel
theorem dX7_camps_67 : decode cX7_camps 67 = .ok (.aload_n 0, 1) := by decide +kernel
theorem dX7_camps_68 : decode cX7_camps 68 = .ok (.iload 4, 2) := by decide +kernel
theorem dX7_camps_70 : decode cX7_camps 70 = .ok (.aload_n 0, 1) := by decide +kernel
theorem dX7_camps_71 : decode cX7_camps 71 = .ok (.invokevirtual 208, 3) := by decide +kernel
theorem dX7_camps_74 : decode cX7_camps 74 = .ok (.sipush 144, 3) := by decide +kernel
theorem dX7_camps_77 : decode cX7_camps 77 = .ok (.irem, 1) := by decide +kernel
theorem dX7_camps_78 : decode cX7_camps 78 = .ok (.invokevirtual 211, 3) := by decide +kernel
theorem dX7_camps_81 : decode cX7_camps 81 = .ok (.iinc 4 1, 3) := by decide +kernel
theorem dX7_camps_84 : decode cX7_camps 84 = .ok (.goto (-28), 3) := by decide +kernel
theorem dX7_camps_87 : decode cX7_camps 87 = .ok (.aload_n 0, 1) := by decide +kernel
theorem dX7_camps_88 : decode cX7_camps 88 = .ok (.invokevirtual 120, 3) := by decide +kernel
theorem dX7_camps_91 : decode cX7_camps 91 = .ok (.iload_n 2, 1) := by decide +kernel
theorem dX7_camps_92 : decode cX7_camps 92 = .ok (.aload_n 0, 1) := by decide +kernel
theorem dX7_camps_93 : decode cX7_camps 93 = .ok (.invokevirtual 151, 3) := by decide +kernel
theorem dX7_camps_96 : decode cX7_camps 96 = .ok (.iadd, 1) := by decide +kernel
theorem dX7_camps_97 : decode cX7_camps 97 = .ok (.istore_n 2, 1) := by decide +kernel
theorem dX7_camps_98 : decode cX7_camps 98 = .ok (.iinc 3 1, 3) := by decide +kernel
theorem dX7_camps_101 : decode cX7_camps 101 = .ok (.goto (-53), 3) := by decide +kernel
theorem dX7_camps_104 : decode cX7_camps 104 = .ok (.aload_n 0, 1) := by decide +kernel
theorem dX7_camps_105 : decode cX7_camps 105 = .ok (.getfield 7, 3) := by decide +kernel
theorem dX7_camps_108 : decode cX7_camps 108 = .ok (.iconst 2, 1) := by decide +kernel
theorem dX7_camps_109 : decode cX7_camps 109 = .ok (.iaload, 1) := by decide +kernel
theorem dX7_camps_110 : decode cX7_camps 110 = .ok (.istore_n 3, 1) := by decide +kernel
theorem dX7_camps_111 : decode cX7_camps 111 = .ok (.aload_n 0, 1) := by decide +kernel
theorem dX7_camps_112 : decode cX7_camps 112 = .ok (.getfield 13, 3) := by decide +kernel
theorem dX7_camps_115 : decode cX7_camps 115 = .ok (.aload_n 0, 1) := by decide +kernel
theorem dX7_camps_116 : decode cX7_camps 116 = .ok (.getfield 7, 3) := by decide +kernel
theorem dX7_camps_119 : decode cX7_camps 119 = .ok (.invokestatic 183, 3) := by decide +kernel
theorem dX7_camps_122 : decode cX7_camps 122 = .ok (.aload_n 0, 1) := by decide +kernel
theorem dX7_camps_123 : decode cX7_camps 123 = .ok (.getfield 7, 3) := by decide +kernel
theorem dX7_camps_126 : decode cX7_camps 126 = .ok (.iconst 2, 1) := by decide +kernel
theorem dX7_camps_127 : decode cX7_camps 127 = .ok (.iload_n 3, 1) := by decide +kernel
theorem dX7_camps_128 : decode cX7_camps 128 = .ok (.iastore, 1) := by decide +kernel
theorem dX7_camps_129 : decode cX7_camps 129 = .ok (.iload_n 2, 1) := by decide +kernel
theorem dX7_camps_130 : decode cX7_camps 130 = .ok (.ireturn, 1) := by decide +kernel
theorem dX7_seed_0 : decode cX7_seed 0 = .ok (.aload_n 0, 1) := by decide +kernel
theorem dX7_seed_1 : decode cX7_seed 1 = .ok (.getfield 7, 3) := by decide +kernel
theorem dX7_seed_4 : decode cX7_seed 4 = .ok (.iconst 2, 1) := by decide +kernel
theorem dX7_seed_5 : decode cX7_seed 5 = .ok (.iaload, 1) := by decide +kernel
theorem dX7_seed_6 : decode cX7_seed 6 = .ok (.istore_n 2, 1) := by decide +kernel
theorem dX7_seed_7 : decode cX7_seed 7 = .ok (.aload_n 0, 1) := by decide +kernel
theorem dX7_seed_8 : decode cX7_seed 8 = .ok (.getfield 7, 3) := by decide +kernel
theorem dX7_seed_11 : decode cX7_seed 11 = .ok (.iconst 2, 1) := by decide +kernel
theorem dX7_seed_12 : decode cX7_seed 12 = .ok (.iload_n 1, 1) := by decide +kernel
theorem dX7_seed_13 : decode cX7_seed 13 = .ok (.iastore, 1) := by decide +kernel
theorem dX7_seed_14 : decode cX7_seed 14 = .ok (.iload_n 2, 1) := by decide +kernel
theorem dX7_seed_15 : decode cX7_seed 15 = .ok (.ireturn, 1) := by decide +kernel
set_option maxRecDepth 20000 in
theorem ggX7_feed_X7_in : GoodIn wsX7_feed wsX7_in := goodIn_r _ [7] (by decide +kernel) (by decide +kernel)
set_option maxRecDepth 20000 in
theorem gX7_feed_X7_in : GoodIn wsX7_feed (va_wsS RX7 58 yX7_in wsX7_in) := goodIn_app (goodIn_of _ (by decide +kernel)) ggX7_feed_X7_in
set_option maxRecDepth 20000 in
theorem ggX7_feed_X7_finds : GoodIn wsX7_feed wsX7_finds := goodIn_r _ [11, 12, 13, 14, 15, 16, 17, 18, 19, 20, 21, 22, 23, 24, 25, 26, 27, 28, 29, 30, 31, 32, 33, 34, 35, 36, 37, 38, 39, 40, 41] (by decide +kernel) (by decide +kernel)
set_option maxRecDepth 20000 in
theorem gX7_feed_X7_finds : GoodIn wsX7_feed (wsV RX7 106 RX7 yX7_finds wsX7_finds) := goodIn_app (goodIn_of _ (by decide +kernel)) ggX7_feed_X7_finds
theorem dX7_feed_0 : decode cX7_feed 0 = .ok (.iload_n 2, 1) := by decide +kernel
theorem dX7_feed_1 : decode cX7_feed 1 = .ok (.i2l, 1) := by decide +kernel
theorem dX7_feed_2 : decode cX7_feed 2 = .ok (.lconst 1, 1) := by decide +kernel
theorem dX7_feed_3 : decode cX7_feed 3 = .ok (.ldc2_w 214, 3) := by decide +kernel
theorem dX7_feed_6 : decode cX7_feed 6 = .ok (.invokestatic 58, 3) := by decide +kernel
theorem dX7_feed_9 : decode cX7_feed 9 = .ok (.ifCond .ne 9, 3) := by decide +kernel
theorem dX7_feed_12 : decode cX7_feed 12 = .ok (.aload_n 0, 1) := by decide +kernel
theorem dX7_feed_13 : decode cX7_feed 13 = .ok (.iconst 0, 1) := by decide +kernel
theorem dX7_feed_14 : decode cX7_feed 14 = .ok (.invokevirtual 106, 3) := by decide +kernel
theorem dX7_feed_17 : decode cX7_feed 17 = .ok (.ireturn, 1) := by decide +kernel
theorem dX7_feed_18 : decode cX7_feed 18 = .ok (.aload_n 0, 1) := by decide +kernel
theorem dX7_feed_19 : decode cX7_feed 19 = .ok (.getfield 216, 3) := by decide +kernel
theorem dX7_feed_22 : decode cX7_feed 22 = .ok (.iload_n 2, 1) := by decide +kernel
theorem dX7_feed_23 : decode cX7_feed 23 = .ok (.iadd, 1) := by decide +kernel
theorem dX7_feed_24 : decode cX7_feed 24 = .ok (.bipush 120, 2) := by decide +kernel
theorem dX7_feed_26 : decode cX7_feed 26 = .ok (.if_icmp .le 9, 3) := by decide +kernel
theorem dX7_feed_29 : decode cX7_feed 29 = .ok (.aload_n 0, 1) := by decide +kernel
theorem dX7_feed_30 : decode cX7_feed 30 = .ok (.iconst 1, 1) := by decide +kernel
theorem dX7_feed_31 : decode cX7_feed 31 = .ok (.invokevirtual 106, 3) := by decide +kernel
theorem dX7_feed_34 : decode cX7_feed 34 = .ok (.ireturn, 1) := by decide +kernel
theorem dX7_feed_35 : decode cX7_feed 35 = .ok (.iload_n 2, 1) := by decide +kernel
theorem dX7_feed_36 : decode cX7_feed 36 = .ok (.iconst 1, 1) := by decide +kernel
theorem dX7_feed_37 : decode cX7_feed 37 = .ok (.isub, 1) := by decide +kernel
theorem dX7_feed_38 : decode cX7_feed 38 = .ok (.istore_n 3, 1) := by decide +kernel
theorem dX7_feed_39 : decode cX7_feed 39 = .ok (.iload_n 3, 1) := by decide +kernel
theorem dX7_feed_40 : decode cX7_feed 40 = .ok (.ifCond .lt 35, 3) := by decide +kernel
theorem dX7_feed_43 : decode cX7_feed 43 = .ok (.aload_n 0, 1) := by decide +kernel
theorem dX7_feed_44 : decode cX7_feed 44 = .ok (.getfield 22, 3) := by decide +kernel
theorem dX7_feed_47 : decode cX7_feed 47 = .ok (.aload_n 0, 1) := by decide +kernel
theorem dX7_feed_48 : decode cX7_feed 48 = .ok (.getfield 216, 3) := by decide +kernel
theorem dX7_feed_51 : decode cX7_feed 51 = .ok (.iload_n 1, 1) := by decide +kernel
theorem dX7_feed_52 : decode cX7_feed 52 = .ok (.bipush 8, 2) := by decide +kernel
theorem dX7_feed_54 : decode cX7_feed 54 = .ok (.iload_n 3, 1) := by decide +kernel
theorem dX7_feed_55 : decode cX7_feed 55 = .ok (.imul, 1) := by decide +kernel
theorem dX7_feed_56 : decode cX7_feed 56 = .ok (.ishr, 1) := by decide +kernel
theorem dX7_feed_57 : decode cX7_feed 57 = .ok (.i2b, 1) := by decide +kernel
theorem dX7_feed_58 : decode cX7_feed 58 = .ok (.bastore, 1) := by decide +kernel
theorem dX7_feed_59 : decode cX7_feed 59 = .ok (.aload_n 0, 1) := by decide +kernel
theorem dX7_feed_60 : decode cX7_feed 60 = .ok (.dup, 1) := by decide +kernel
theorem dX7_feed_61 : decode cX7_feed 61 = .ok (.getfield 216, 3) := by decide +kernel
theorem dX7_feed_64 : decode cX7_feed 64 = .ok (.iconst 1, 1) := by decide +kernel
theorem dX7_feed_65 : decode cX7_feed 65 = .ok (.iadd, 1) := by decide +kernel
theorem dX7_feed_66 : decode cX7_feed 66 = .ok (.putfield 216, 3) := by decide +kernel
theorem dX7_feed_69 : decode cX7_feed 69 = .ok (.iinc 3 (-1), 3) := by decide +kernel
theorem dX7_feed_72 : decode cX7_feed 72 = .ok (.goto (-33), 3) := by decide +kernel
theorem dX7_feed_75 : decode cX7_feed 75 = .ok (.aload_n 0, 1) := by decide +kernel
theorem dX7_feed_76 : decode cX7_feed 76 = .ok (.getfield 216, 3) := by decide +kernel
theorem dX7_feed_79 : decode cX7_feed 79 = .ok (.ireturn, 1) := by decide +kernel
theorem dX7_wipe_0 : decode cX7_wipe 0 = .ok (.aload_n 0, 1) := by decide +kernel
theorem dX7_wipe_1 : decode cX7_wipe 1 = .ok (.getfield 216, 3) := by decide +kernel
theorem dX7_wipe_4 : decode cX7_wipe 4 = .ok (.istore_n 1, 1) := by decide +kernel
theorem dX7_wipe_5 : decode cX7_wipe 5 = .ok (.aload_n 0, 1) := by decide +kernel
theorem dX7_wipe_6 : decode cX7_wipe 6 = .ok (.iconst 0, 1) := by decide +kernel
theorem dX7_wipe_7 : decode cX7_wipe 7 = .ok (.putfield 216, 3) := by decide +kernel
theorem dX7_wipe_10 : decode cX7_wipe 10 = .ok (.iload_n 1, 1) := by decide +kernel
theorem dX7_wipe_11 : decode cX7_wipe 11 = .ok (.ireturn, 1) := by decide +kernel
theorem dX7_letter_0 : decode cX7_letter 0 = .ok (.iload_n 0, 1) := by decide +kernel
theorem dX7_letter_1 : decode cX7_letter 1 = .ok (.bipush 97, 2) := by decide +kernel
theorem dX7_letter_3 : decode cX7_letter 3 = .ok (.if_icmp .lt 18, 3) := by decide +kernel
theorem dX7_letter_6 : decode cX7_letter 6 = .ok (.iload_n 0, 1) := by decide +kernel
theorem dX7_letter_7 : decode cX7_letter 7 = .ok (.bipush 122, 2) := by decide +kernel
theorem dX7_letter_9 : decode cX7_letter 9 = .ok (.if_icmp .gt 12, 3) := by decide +kernel
theorem dX7_letter_12 : decode cX7_letter 12 = .ok (.iload_n 0, 1) := by decide +kernel
theorem dX7_letter_13 : decode cX7_letter 13 = .ok (.bipush 97, 2) := by decide +kernel
theorem dX7_letter_15 : decode cX7_letter 15 = .ok (.isub, 1) := by decide +kernel
theorem dX7_letter_16 : decode cX7_letter 16 = .ok (.iconst 1, 1) := by decide +kernel
theorem dX7_letter_17 : decode cX7_letter 17 = .ok (.iadd, 1) := by decide +kernel
theorem dX7_letter_18 : decode cX7_letter 18 = .ok (.goto 4, 3) := by decide +kernel
theorem dX7_letter_21 : decode cX7_letter 21 = .ok (.iconst 0, 1) := by decide +kernel
theorem dX7_letter_22 : decode cX7_letter 22 = .ok (.ireturn, 1) := by decide +kernel
theorem dX7_isDigit_0 : decode cX7_isDigit 0 = .ok (.iload_n 0, 1) := by decide +kernel
theorem dX7_isDigit_1 : decode cX7_isDigit 1 = .ok (.bipush 48, 2) := by decide +kernel
theorem dX7_isDigit_3 : decode cX7_isDigit 3 = .ok (.if_icmp .lt 13, 3) := by decide +kernel
theorem dX7_isDigit_6 : decode cX7_isDigit 6 = .ok (.iload_n 0, 1) := by decide +kernel
theorem dX7_isDigit_7 : decode cX7_isDigit 7 = .ok (.bipush 57, 2) := by decide +kernel
theorem dX7_isDigit_9 : decode cX7_isDigit 9 = .ok (.if_icmp .gt 7, 3) := by decide +kernel
theorem dX7_isDigit_12 : decode cX7_isDigit 12 = .ok (.iconst 1, 1) := by decide +kernel
theorem dX7_isDigit_13 : decode cX7_isDigit 13 = .ok (.goto 4, 3) := by decide +kernel
theorem dX7_isDigit_16 : decode cX7_isDigit 16 = .ok (.iconst 0, 1) := by decide +kernel
theorem dX7_isDigit_17 : decode cX7_isDigit 17 = .ok (.ireturn, 1) := by decide +kernel
theorem dX7_byteAt_0 : decode cX7_byteAt 0 = .ok (.iload_n 1, 1) := by decide +kernel
theorem dX7_byteAt_1 : decode cX7_byteAt 1 = .ok (.aload_n 0, 1) := by decide +kernel
theorem dX7_byteAt_2 : decode cX7_byteAt 2 = .ok (.getfield 216, 3) := by decide +kernel
theorem dX7_byteAt_5 : decode cX7_byteAt 5 = .ok (.if_icmp .ge 12, 3) := by decide +kernel
theorem dX7_byteAt_8 : decode cX7_byteAt 8 = .ok (.aload_n 0, 1) := by decide +kernel
theorem dX7_byteAt_9 : decode cX7_byteAt 9 = .ok (.getfield 22, 3) := by decide +kernel
theorem dX7_byteAt_12 : decode cX7_byteAt 12 = .ok (.iload_n 1, 1) := by decide +kernel
theorem dX7_byteAt_13 : decode cX7_byteAt 13 = .ok (.baload, 1) := by decide +kernel
theorem dX7_byteAt_14 : decode cX7_byteAt 14 = .ok (.goto 4, 3) := by decide +kernel
theorem dX7_byteAt_17 : decode cX7_byteAt 17 = .ok (.iconst (-1), 1) := by decide +kernel
theorem dX7_byteAt_18 : decode cX7_byteAt 18 = .ok (.ireturn, 1) := by decide +kernel
set_option maxRecDepth 20000 in
theorem ggX7_next_X7_byteAt : GoodIn wsX7_next wsX7_byteAt := goodIn_r _ [15, 4, 16, 23, 24, 25, 26, 27, 28, 29, 30, 31, 32, 33, 34, 35, 36, 37, 38, 39, 40, 41, 42, 43, 44, 45, 46, 47, 48, 49, 50] (by decide +kernel) (by decide +kernel)
set_option maxRecDepth 20000 in
theorem gX7_next_X7_byteAt : GoodIn wsX7_next (wsV RX7 222 RX7 yX7_byteAt wsX7_byteAt) := goodIn_app (goodIn_of _ (by decide +kernel)) ggX7_next_X7_byteAt
set_option maxRecDepth 20000 in
theorem ggX7_next_X7_letter : GoodIn wsX7_next wsX7_letter := goodIn_r _ [19] (by decide +kernel) (by decide +kernel)
set_option maxRecDepth 20000 in
theorem gX7_next_X7_letter : GoodIn wsX7_next (va_wsS RX7 235 yX7_letter wsX7_letter) := goodIn_app (goodIn_of _ (by decide +kernel)) ggX7_next_X7_letter
set_option maxRecDepth 20000 in
theorem ggX7_next_X7_isDigit : GoodIn wsX7_next wsX7_isDigit := goodIn_r _ [22] (by decide +kernel) (by decide +kernel)
set_option maxRecDepth 20000 in
theorem gX7_next_X7_isDigit : GoodIn wsX7_next (va_wsS RX7 242 yX7_isDigit wsX7_isDigit) := goodIn_app (goodIn_of _ (by decide +kernel)) ggX7_next_X7_isDigit
theorem dX7_next_0 : decode cX7_next 0 = .ok (.aload_n 0, 1) := by decide +kernel
theorem dX7_next_1 : decode cX7_next 1 = .ok (.aload_n 0, 1) := by decide +kernel
theorem dX7_next_2 : decode cX7_next 2 = .ok (.getfield 219, 3) := by decide +kernel
theorem dX7_next_5 : decode cX7_next 5 = .ok (.invokevirtual 222, 3) := by decide +kernel
theorem dX7_next_8 : decode cX7_next 8 = .ok (.bipush 32, 2) := by decide +kernel
theorem dX7_next_10 : decode cX7_next 10 = .ok (.if_icmp .ne 16, 3) := by decide +kernel
theorem dX7_next_13 : decode cX7_next 13 = .ok (.aload_n 0, 1) := by decide +kernel
theorem dX7_next_14 : decode cX7_next 14 = .ok (.dup, 1) := by decide +kernel
theorem dX7_next_15 : decode cX7_next 15 = .ok (.getfield 219, 3) := by decide +kernel
theorem dX7_next_18 : decode cX7_next 18 = .ok (.iconst 1, 1) := by decide +kernel
theorem dX7_next_19 : decode cX7_next 19 = .ok (.iadd, 1) := by decide +kernel
theorem dX7_next_20 : decode cX7_next 20 = .ok (.putfield 219, 3) := by decide +kernel
theorem dX7_next_23 : decode cX7_next 23 = .ok (.goto (-23), 3) := by decide +kernel
theorem dX7_next_26 : decode cX7_next 26 = .ok (.aload_n 0, 1) := by decide +kernel
theorem dX7_next_27 : decode cX7_next 27 = .ok (.aload_n 0, 1) := by decide +kernel
theorem dX7_next_28 : decode cX7_next 28 = .ok (.getfield 219, 3) := by decide +kernel
theorem dX7_next_31 : decode cX7_next 31 = .ok (.putfield 225, 3) := by decide +kernel
theorem dX7_next_34 : decode cX7_next 34 = .ok (.aload_n 0, 1) := by decide +kernel
theorem dX7_next_35 : decode cX7_next 35 = .ok (.lconst 0, 1) := by decide +kernel
theorem dX7_next_36 : decode cX7_next 36 = .ok (.putfield 228, 3) := by decide +kernel
theorem dX7_next_39 : decode cX7_next 39 = .ok (.aload_n 0, 1) := by decide +kernel
theorem dX7_next_40 : decode cX7_next 40 = .ok (.aload_n 0, 1) := by decide +kernel
theorem dX7_next_41 : decode cX7_next 41 = .ok (.getfield 219, 3) := by decide +kernel
theorem dX7_next_44 : decode cX7_next 44 = .ok (.invokevirtual 222, 3) := by decide +kernel
theorem dX7_next_47 : decode cX7_next 47 = .ok (.istore_n 1, 1) := by decide +kernel
theorem dX7_next_48 : decode cX7_next 48 = .ok (.aload_n 0, 1) := by decide +kernel
theorem dX7_next_49 : decode cX7_next 49 = .ok (.getfield 219, 3) := by decide +kernel
theorem dX7_next_52 : decode cX7_next 52 = .ok (.aload_n 0, 1) := by decide +kernel
theorem dX7_next_53 : decode cX7_next 53 = .ok (.getfield 216, 3) := by decide +kernel
theorem dX7_next_56 : decode cX7_next 56 = .ok (.if_icmp .ne 11, 3) := by decide +kernel
theorem dX7_next_59 : decode cX7_next 59 = .ok (.aload_n 0, 1) := by decide +kernel
theorem dX7_next_60 : decode cX7_next 60 = .ok (.iconst 0, 1) := by decide +kernel
theorem dX7_next_61 : decode cX7_next 61 = .ok (.putfield 232, 3) := by decide +kernel
theorem dX7_next_64 : decode cX7_next 64 = .ok (.goto 197, 3) := by decide +kernel
theorem dX7_next_67 : decode cX7_next 67 = .ok (.iload_n 1, 1) := by decide +kernel
theorem dX7_next_68 : decode cX7_next 68 = .ok (.bipush 59, 2) := by decide +kernel
theorem dX7_next_70 : decode cX7_next 70 = .ok (.if_icmp .ne 21, 3) := by decide +kernel
theorem dX7_next_73 : decode cX7_next 73 = .ok (.aload_n 0, 1) := by decide +kernel
theorem dX7_next_74 : decode cX7_next 74 = .ok (.iconst 3, 1) := by decide +kernel
theorem dX7_next_75 : decode cX7_next 75 = .ok (.putfield 232, 3) := by decide +kernel
theorem dX7_next_78 : decode cX7_next 78 = .ok (.aload_n 0, 1) := by decide +kernel
theorem dX7_next_79 : decode cX7_next 79 = .ok (.dup, 1) := by decide +kernel
theorem dX7_next_80 : decode cX7_next 80 = .ok (.getfield 219, 3) := by decide +kernel
theorem dX7_next_83 : decode cX7_next 83 = .ok (.iconst 1, 1) := by decide +kernel
theorem dX7_next_84 : decode cX7_next 84 = .ok (.iadd, 1) := by decide +kernel
theorem dX7_next_85 : decode cX7_next 85 = .ok (.putfield 219, 3) := by decide +kernel
theorem dX7_next_88 : decode cX7_next 88 = .ok (.goto 173, 3) := by decide +kernel
theorem dX7_next_91 : decode cX7_next 91 = .ok (.iload_n 1, 1) := by decide +kernel
theorem dX7_next_92 : decode cX7_next 92 = .ok (.invokestatic 235, 3) := by decide +kernel
theorem dX7_next_95 : decode cX7_next 95 = .ok (.ifCond .le 78, 3) := by decide +kernel
theorem dX7_next_98 : decode cX7_next 98 = .ok (.aload_n 0, 1) := by decide +kernel
theorem dX7_next_99 : decode cX7_next 99 = .ok (.iconst 1, 1) := by decide +kernel
theorem dX7_next_100 : decode cX7_next 100 = .ok (.putfield 232, 3) := by decide +kernel
theorem dX7_next_103 : decode cX7_next 103 = .ok (.aload_n 0, 1) := by decide +kernel
theorem dX7_next_104 : decode cX7_next 104 = .ok (.aload_n 0, 1) := by decide +kernel
theorem dX7_next_105 : decode cX7_next 105 = .ok (.getfield 219, 3) := by decide +kernel
theorem dX7_next_108 : decode cX7_next 108 = .ok (.invokevirtual 222, 3) := by decide +kernel
theorem dX7_next_111 : decode cX7_next 111 = .ok (.invokestatic 235, 3) := by decide +kernel
theorem dX7_next_114 : decode cX7_next 114 = .ok (.ifCond .le 147, 3) := by decide +kernel
theorem dX7_next_117 : decode cX7_next 117 = .ok (.aload_n 0, 1) := by decide +kernel
theorem dX7_next_118 : decode cX7_next 118 = .ok (.aload_n 0, 1) := by decide +kernel
theorem dX7_next_119 : decode cX7_next 119 = .ok (.getfield 228, 3) := by decide +kernel
theorem dX7_next_122 : decode cX7_next 122 = .ok (.ldc2_w 238, 3) := by decide +kernel
theorem dX7_next_125 : decode cX7_next 125 = .ok (.lcmp, 1) := by decide +kernel
theorem dX7_next_126 : decode cX7_next 126 = .ok (.ifCond .le 10, 3) := by decide +kernel
theorem dX7_next_129 : decode cX7_next 129 = .ok (.aload_n 0, 1) := by decide +kernel
theorem dX7_next_130 : decode cX7_next 130 = .ok (.getfield 228, 3) := by decide +kernel
theorem dX7_next_133 : decode cX7_next 133 = .ok (.goto 24, 3) := by decide +kernel
theorem dX7_next_136 : decode cX7_next 136 = .ok (.aload_n 0, 1) := by decide +kernel
theorem dX7_next_137 : decode cX7_next 137 = .ok (.getfield 228, 3) := by decide +kernel
theorem dX7_next_140 : decode cX7_next 140 = .ok (.ldc2_w 240, 3) := by decide +kernel
theorem dX7_next_143 : decode cX7_next 143 = .ok (.lmul, 1) := by decide +kernel
theorem dX7_next_144 : decode cX7_next 144 = .ok (.aload_n 0, 1) := by decide +kernel
theorem dX7_next_145 : decode cX7_next 145 = .ok (.aload_n 0, 1) := by decide +kernel
theorem dX7_next_146 : decode cX7_next 146 = .ok (.getfield 219, 3) := by decide +kernel
theorem dX7_next_149 : decode cX7_next 149 = .ok (.invokevirtual 222, 3) := by decide +kernel
theorem dX7_next_152 : decode cX7_next 152 = .ok (.invokestatic 235, 3) := by decide +kernel
theorem dX7_next_155 : decode cX7_next 155 = .ok (.i2l, 1) := by decide +kernel
theorem dX7_next_156 : decode cX7_next 156 = .ok (.ladd, 1) := by decide +kernel
theorem dX7_next_157 : decode cX7_next 157 = .ok (.putfield 228, 3) := by decide +kernel
theorem dX7_next_160 : decode cX7_next 160 = .ok (.aload_n 0, 1) := by decide +kernel
theorem dX7_next_161 : decode cX7_next 161 = .ok (.dup, 1) := by decide +kernel
theorem dX7_next_162 : decode cX7_next 162 = .ok (.getfield 219, 3) := by decide +kernel
theorem dX7_next_165 : decode cX7_next 165 = .ok (.iconst 1, 1) := by decide +kernel
theorem dX7_next_166 : decode cX7_next 166 = .ok (.iadd, 1) := by decide +kernel
theorem dX7_next_167 : decode cX7_next 167 = .ok (.putfield 219, 3) := by decide +kernel
theorem dX7_next_170 : decode cX7_next 170 = .ok (.goto (-67), 3) := by decide +kernel
theorem dX7_next_173 : decode cX7_next 173 = .ok (.iload_n 1, 1) := by decide +kernel
theorem dX7_next_174 : decode cX7_next 174 = .ok (.invokestatic 242, 3) := by decide +kernel
theorem dX7_next_177 : decode cX7_next 177 = .ok (.ifCond .eq 79, 3) := by decide +kernel
theorem dX7_next_180 : decode cX7_next 180 = .ok (.aload_n 0, 1) := by decide +kernel
theorem dX7_next_181 : decode cX7_next 181 = .ok (.iconst 2, 1) := by decide +kernel
theorem dX7_next_182 : decode cX7_next 182 = .ok (.putfield 232, 3) := by decide +kernel
theorem dX7_next_185 : decode cX7_next 185 = .ok (.aload_n 0, 1) := by decide +kernel
theorem dX7_next_186 : decode cX7_next 186 = .ok (.aload_n 0, 1) := by decide +kernel
theorem dX7_next_187 : decode cX7_next 187 = .ok (.getfield 219, 3) := by decide +kernel
theorem dX7_next_190 : decode cX7_next 190 = .ok (.invokevirtual 222, 3) := by decide +kernel
theorem dX7_next_193 : decode cX7_next 193 = .ok (.invokestatic 242, 3) := by decide +kernel
theorem dX7_next_196 : decode cX7_next 196 = .ok (.ifCond .eq 65, 3) := by decide +kernel
theorem dX7_next_199 : decode cX7_next 199 = .ok (.aload_n 0, 1) := by decide +kernel
theorem dX7_next_200 : decode cX7_next 200 = .ok (.aload_n 0, 1) := by decide +kernel
theorem dX7_next_201 : decode cX7_next 201 = .ok (.getfield 228, 3) := by decide +kernel
theorem dX7_next_204 : decode cX7_next 204 = .ok (.ldc2_w 245, 3) := by decide +kernel
theorem dX7_next_207 : decode cX7_next 207 = .ok (.lcmp, 1) := by decide +kernel
theorem dX7_next_208 : decode cX7_next 208 = .ok (.ifCond .le 10, 3) := by decide +kernel
theorem dX7_next_211 : decode cX7_next 211 = .ok (.aload_n 0, 1) := by decide +kernel
theorem dX7_next_212 : decode cX7_next 212 = .ok (.getfield 228, 3) := by decide +kernel
theorem dX7_next_215 : decode cX7_next 215 = .ok (.goto 25, 3) := by decide +kernel
theorem dX7_next_218 : decode cX7_next 218 = .ok (.aload_n 0, 1) := by decide +kernel
theorem dX7_next_219 : decode cX7_next 219 = .ok (.getfield 228, 3) := by decide +kernel
theorem dX7_next_222 : decode cX7_next 222 = .ok (.ldc2_w 247, 3) := by decide +kernel
theorem dX7_next_225 : decode cX7_next 225 = .ok (.lmul, 1) := by decide +kernel
theorem dX7_next_226 : decode cX7_next 226 = .ok (.aload_n 0, 1) := by decide +kernel
theorem dX7_next_227 : decode cX7_next 227 = .ok (.aload_n 0, 1) := by decide +kernel
theorem dX7_next_228 : decode cX7_next 228 = .ok (.getfield 219, 3) := by decide +kernel
theorem dX7_next_231 : decode cX7_next 231 = .ok (.invokevirtual 222, 3) := by decide +kernel
theorem dX7_next_234 : decode cX7_next 234 = .ok (.i2l, 1) := by decide +kernel
theorem dX7_next_235 : decode cX7_next 235 = .ok (.ladd, 1) := by decide +kernel
theorem dX7_next_236 : decode cX7_next 236 = .ok (.ldc2_w 249, 3) := by decide +kernel
theorem dX7_next_239 : decode cX7_next 239 = .ok (.lsub, 1) := by decide +kernel
theorem dX7_next_240 : decode cX7_next 240 = .ok (.putfield 228, 3) := by decide +kernel
theorem dX7_next_243 : decode cX7_next 243 = .ok (.aload_n 0, 1) := by decide +kernel
theorem dX7_next_244 : decode cX7_next 244 = .ok (.dup, 1) := by decide +kernel
theorem dX7_next_245 : decode cX7_next 245 = .ok (.getfield 219, 3) := by decide +kernel
theorem dX7_next_248 : decode cX7_next 248 = .ok (.iconst 1, 1) := by decide +kernel
theorem dX7_next_249 : decode cX7_next 249 = .ok (.iadd, 1) := by decide +kernel
theorem dX7_next_250 : decode cX7_next 250 = .ok (.putfield 219, 3) := by decide +kernel
theorem dX7_next_253 : decode cX7_next 253 = .ok (.goto (-68), 3) := by decide +kernel
theorem dX7_next_256 : decode cX7_next 256 = .ok (.aload_n 0, 1) := by decide +kernel
theorem dX7_next_257 : decode cX7_next 257 = .ok (.iconst 4, 1) := by decide +kernel
theorem dX7_next_258 : decode cX7_next 258 = .ok (.putfield 232, 3) := by decide +kernel
theorem dX7_next_261 : decode cX7_next 261 = .ok (.return_, 1) := by decide +kernel
theorem dX7_wrongHere_0 : decode cX7_wrongHere 0 = .ok (.aload_n 0, 1) := by decide +kernel
theorem dX7_wrongHere_1 : decode cX7_wrongHere 1 = .ok (.aload_n 0, 1) := by decide +kernel
theorem dX7_wrongHere_2 : decode cX7_wrongHere 2 = .ok (.getfield 251, 3) := by decide +kernel
theorem dX7_wrongHere_5 : decode cX7_wrongHere 5 = .ok (.ifCond .ge 10, 3) := by decide +kernel
theorem dX7_wrongHere_8 : decode cX7_wrongHere 8 = .ok (.aload_n 0, 1) := by decide +kernel
theorem dX7_wrongHere_9 : decode cX7_wrongHere 9 = .ok (.getfield 225, 3) := by decide +kernel
theorem dX7_wrongHere_12 : decode cX7_wrongHere 12 = .ok (.goto 7, 3) := by decide +kernel
theorem dX7_wrongHere_15 : decode cX7_wrongHere 15 = .ok (.aload_n 0, 1) := by decide +kernel
theorem dX7_wrongHere_16 : decode cX7_wrongHere 16 = .ok (.getfield 251, 3) := by decide +kernel
theorem dX7_wrongHere_19 : decode cX7_wrongHere 19 = .ok (.putfield 251, 3) := by decide +kernel
theorem dX7_wrongHere_22 : decode cX7_wrongHere 22 = .ok (.return_, 1) := by decide +kernel
theorem dX7_isWord_0 : decode cX7_isWord 0 = .ok (.aload_n 0, 1) := by decide +kernel
theorem dX7_isWord_1 : decode cX7_isWord 1 = .ok (.getfield 232, 3) := by decide +kernel
theorem dX7_isWord_4 : decode cX7_isWord 4 = .ok (.iconst 1, 1) := by decide +kernel
theorem dX7_isWord_5 : decode cX7_isWord 5 = .ok (.if_icmp .ne 16, 3) := by decide +kernel
theorem dX7_isWord_8 : decode cX7_isWord 8 = .ok (.aload_n 0, 1) := by decide +kernel
theorem dX7_isWord_9 : decode cX7_isWord 9 = .ok (.getfield 228, 3) := by decide +kernel
theorem dX7_isWord_12 : decode cX7_isWord 12 = .ok (.lload_n 1, 1) := by decide +kernel
theorem dX7_isWord_13 : decode cX7_isWord 13 = .ok (.lcmp, 1) := by decide +kernel
theorem dX7_isWord_14 : decode cX7_isWord 14 = .ok (.ifCond .ne 7, 3) := by decide +kernel
theorem dX7_isWord_17 : decode cX7_isWord 17 = .ok (.iconst 1, 1) := by decide +kernel
theorem dX7_isWord_18 : decode cX7_isWord 18 = .ok (.goto 4, 3) := by decide +kernel
theorem dX7_isWord_21 : decode cX7_isWord 21 = .ok (.iconst 0, 1) := by decide +kernel
theorem dX7_isWord_22 : decode cX7_isWord 22 = .ok (.ireturn, 1) := by decide +kernel
set_option maxRecDepth 20000 in
theorem ggX7_kindHere_X7_isWord : GoodIn wsX7_kindHere wsX7_isWord := goodIn_r _ [12, 13, 14, 15, 16, 17, 18, 19, 20, 21, 22, 23, 24, 25, 26, 27, 28, 29, 30, 31, 32, 33, 34, 35, 36, 37, 38, 39, 40, 41, 42] (by decide +kernel) (by decide +kernel)
set_option maxRecDepth 20000 in
theorem gX7_kindHere_X7_isWord : GoodIn wsX7_kindHere (wsV RX7 256 RX7 yX7_isWord wsX7_isWord) := goodIn_app (goodIn_of _ (by decide +kernel)) ggX7_kindHere_X7_isWord
theorem dX7_kindHere_0 : decode cX7_kindHere 0 = .ok (.aload_n 0, 1) := by decide +kernel
theorem dX7_kindHere_1 : decode cX7_kindHere 1 = .ok (.ldc2_w 254, 3) := by decide +kernel
theorem dX7_kindHere_4 : decode cX7_kindHere 4 = .ok (.invokevirtual 256, 3) := by decide +kernel
theorem dX7_kindHere_7 : decode cX7_kindHere 7 = .ok (.ifCond .eq 7, 3) := by decide +kernel
theorem dX7_kindHere_10 : decode cX7_kindHere 10 = .ok (.iconst 0, 1) := by decide +kernel
theorem dX7_kindHere_11 : decode cX7_kindHere 11 = .ok (.goto 89, 3) := by decide +kernel
theorem dX7_kindHere_14 : decode cX7_kindHere 14 = .ok (.aload_n 0, 1) := by decide +kernel
theorem dX7_kindHere_15 : decode cX7_kindHere 15 = .ok (.ldc2_w 260, 3) := by decide +kernel
theorem dX7_kindHere_18 : decode cX7_kindHere 18 = .ok (.invokevirtual 256, 3) := by decide +kernel
theorem dX7_kindHere_21 : decode cX7_kindHere 21 = .ok (.ifCond .eq 7, 3) := by decide +kernel
theorem dX7_kindHere_24 : decode cX7_kindHere 24 = .ok (.iconst 1, 1) := by decide +kernel
theorem dX7_kindHere_25 : decode cX7_kindHere 25 = .ok (.goto 75, 3) := by decide +kernel
theorem dX7_kindHere_28 : decode cX7_kindHere 28 = .ok (.aload_n 0, 1) := by decide +kernel
theorem dX7_kindHere_29 : decode cX7_kindHere 29 = .ok (.ldc2_w 262, 3) := by decide +kernel
theorem dX7_kindHere_32 : decode cX7_kindHere 32 = .ok (.invokevirtual 256, 3) := by decide +kernel
theorem dX7_kindHere_35 : decode cX7_kindHere 35 = .ok (.ifCond .eq 7, 3) := by decide +kernel
theorem dX7_kindHere_38 : decode cX7_kindHere 38 = .ok (.iconst 2, 1) := by decide +kernel
theorem dX7_kindHere_39 : decode cX7_kindHere 39 = .ok (.goto 61, 3) := by decide +kernel
theorem dX7_kindHere_42 : decode cX7_kindHere 42 = .ok (.aload_n 0, 1) := by decide +kernel
theorem dX7_kindHere_43 : decode cX7_kindHere 43 = .ok (.ldc2_w 264, 3) := by decide +kernel
theorem dX7_kindHere_46 : decode cX7_kindHere 46 = .ok (.invokevirtual 256, 3) := by decide +kernel
theorem dX7_kindHere_49 : decode cX7_kindHere 49 = .ok (.ifCond .eq 7, 3) := by decide +kernel
theorem dX7_kindHere_52 : decode cX7_kindHere 52 = .ok (.iconst 3, 1) := by decide +kernel
theorem dX7_kindHere_53 : decode cX7_kindHere 53 = .ok (.goto 47, 3) := by decide +kernel
theorem dX7_kindHere_56 : decode cX7_kindHere 56 = .ok (.aload_n 0, 1) := by decide +kernel
theorem dX7_kindHere_57 : decode cX7_kindHere 57 = .ok (.ldc2_w 266, 3) := by decide +kernel
theorem dX7_kindHere_60 : decode cX7_kindHere 60 = .ok (.invokevirtual 256, 3) := by decide +kernel
theorem dX7_kindHere_63 : decode cX7_kindHere 63 = .ok (.ifCond .eq 7, 3) := by decide +kernel
theorem dX7_kindHere_66 : decode cX7_kindHere 66 = .ok (.iconst 4, 1) := by decide +kernel
theorem dX7_kindHere_67 : decode cX7_kindHere 67 = .ok (.goto 33, 3) := by decide +kernel
theorem dX7_kindHere_70 : decode cX7_kindHere 70 = .ok (.aload_n 0, 1) := by decide +kernel
theorem dX7_kindHere_71 : decode cX7_kindHere 71 = .ok (.ldc2_w 268, 3) := by decide +kernel
theorem dX7_kindHere_74 : decode cX7_kindHere 74 = .ok (.invokevirtual 256, 3) := by decide +kernel
theorem dX7_kindHere_77 : decode cX7_kindHere 77 = .ok (.ifCond .eq 7, 3) := by decide +kernel
theorem dX7_kindHere_80 : decode cX7_kindHere 80 = .ok (.iconst 5, 1) := by decide +kernel
theorem dX7_kindHere_81 : decode cX7_kindHere 81 = .ok (.goto 19, 3) := by decide +kernel
theorem dX7_kindHere_84 : decode cX7_kindHere 84 = .ok (.aload_n 0, 1) := by decide +kernel
theorem dX7_kindHere_85 : decode cX7_kindHere 85 = .ok (.ldc2_w 270, 3) := by decide +kernel
theorem dX7_kindHere_88 : decode cX7_kindHere 88 = .ok (.invokevirtual 256, 3) := by decide +kernel
theorem dX7_kindHere_91 : decode cX7_kindHere 91 = .ok (.ifCond .eq 8, 3) := by decide +kernel
theorem dX7_kindHere_94 : decode cX7_kindHere 94 = .ok (.bipush 6, 2) := by decide +kernel
theorem dX7_kindHere_96 : decode cX7_kindHere 96 = .ok (.goto 4, 3) := by decide +kernel
theorem dX7_kindHere_99 : decode cX7_kindHere 99 = .ok (.iconst (-1), 1) := by decide +kernel
theorem dX7_kindHere_100 : decode cX7_kindHere 100 = .ok (.ireturn, 1) := by decide +kernel
set_option maxRecDepth 20000 in
theorem ggX7_numberHere_X7_wrongHere : GoodIn wsX7_numberHere wsX7_wrongHere := goodIn_r _ [7, 8, 9, 32, 33, 34, 35, 36, 37, 38, 39, 40, 41, 42, 43, 44, 45, 46, 47, 48, 49, 50, 51, 52, 53, 54, 55, 56, 57, 58, 59] (by decide +kernel) (by decide +kernel)
set_option maxRecDepth 20000 in
theorem gX7_numberHere_X7_wrongHere : GoodIn wsX7_numberHere (wsV RX7 272 RX7 yX7_wrongHere wsX7_wrongHere) := goodIn_app (goodIn_of _ (by decide +kernel)) ggX7_numberHere_X7_wrongHere
set_option maxRecDepth 20000 in
theorem ggX7_numberHere_X7_next : GoodIn wsX7_numberHere wsX7_next := goodIn_r _ [13, 14, 9, 1, 15, 2, 16, 17, 18, 19, 20, 21, 22, 23, 6, 24, 25, 26, 27, 28, 29, 30, 31, 32, 33, 34, 35, 36, 37, 38, 39, 40, 41, 42, 43, 44, 45, 46, 47, 48, 49, 50, 51, 52, 53, 54, 55, 56, 57, 58, 59] (by decide +kernel) (by decide +kernel)
set_option maxRecDepth 20000 in
theorem gX7_numberHere_X7_next : GoodIn wsX7_numberHere (wsV RX7 275 RX7 yX7_next wsX7_next) := goodIn_app (goodIn_of _ (by decide +kernel)) ggX7_numberHere_X7_next
theorem dX7_numberHere_0 : decode cX7_numberHere 0 = .ok (.aload_n 0, 1) := by decide +kernel
theorem dX7_numberHere_1 : decode cX7_numberHere 1 = .ok (.getfield 228, 3) := by decide +kernel
theorem dX7_numberHere_4 : decode cX7_numberHere 4 = .ok (.l2i, 1) := by decide +kernel
theorem dX7_numberHere_5 : decode cX7_numberHere 5 = .ok (.istore_n 2, 1) := by decide +kernel
theorem dX7_numberHere_6 : decode cX7_numberHere 6 = .ok (.aload_n 0, 1) := by decide +kernel
theorem dX7_numberHere_7 : decode cX7_numberHere 7 = .ok (.getfield 232, 3) := by decide +kernel
theorem dX7_numberHere_10 : decode cX7_numberHere 10 = .ok (.iconst 2, 1) := by decide +kernel
theorem dX7_numberHere_11 : decode cX7_numberHere 11 = .ok (.if_icmp .ne 13, 3) := by decide +kernel
theorem dX7_numberHere_14 : decode cX7_numberHere 14 = .ok (.aload_n 0, 1) := by decide +kernel
theorem dX7_numberHere_15 : decode cX7_numberHere 15 = .ok (.getfield 228, 3) := by decide +kernel
theorem dX7_numberHere_18 : decode cX7_numberHere 18 = .ok (.iload_n 1, 1) := by decide +kernel
theorem dX7_numberHere_19 : decode cX7_numberHere 19 = .ok (.i2l, 1) := by decide +kernel
theorem dX7_numberHere_20 : decode cX7_numberHere 20 = .ok (.lcmp, 1) := by decide +kernel
theorem dX7_numberHere_21 : decode cX7_numberHere 21 = .ok (.ifCond .le 9, 3) := by decide +kernel
theorem dX7_numberHere_24 : decode cX7_numberHere 24 = .ok (.aload_n 0, 1) := by decide +kernel
theorem dX7_numberHere_25 : decode cX7_numberHere 25 = .ok (.invokevirtual 272, 3) := by decide +kernel
theorem dX7_numberHere_28 : decode cX7_numberHere 28 = .ok (.iconst 0, 1) := by decide +kernel
theorem dX7_numberHere_29 : decode cX7_numberHere 29 = .ok (.ireturn, 1) := by decide +kernel
theorem dX7_numberHere_30 : decode cX7_numberHere 30 = .ok (.aload_n 0, 1) := by decide +kernel
theorem dX7_numberHere_31 : decode cX7_numberHere 31 = .ok (.invokevirtual 275, 3) := by decide +kernel
theorem dX7_numberHere_34 : decode cX7_numberHere 34 = .ok (.iload_n 2, 1) := by decide +kernel
theorem dX7_numberHere_35 : decode cX7_numberHere 35 = .ok (.ireturn, 1) := by decide +kernel
set_option maxRecDepth 20000 in
theorem ggX7_tentHere_X7_wrongHere : GoodIn wsX7_tentHere wsX7_wrongHere := goodIn_r _ [12, 3, 13, 60, 61, 62, 63, 64, 65, 66, 67, 68, 69, 70, 71, 72, 73, 74, 75, 76, 77, 78, 79, 80, 81, 82, 83, 84, 85, 86, 87] (by decide +kernel) (by decide +kernel)
set_option maxRecDepth 20000 in
theorem gX7_tentHere_X7_wrongHere : GoodIn wsX7_tentHere (wsV RX7 272 RX7 yX7_wrongHere wsX7_wrongHere) := goodIn_app (goodIn_of _ (by decide +kernel)) ggX7_tentHere_X7_wrongHere
set_option maxRecDepth 20000 in
theorem ggX7_tentHere_X7_next : GoodIn wsX7_tentHere wsX7_next := goodIn_r _ [17, 18, 13, 5, 19, 4, 20, 21, 22, 23, 24, 25, 26, 27, 11, 28, 29, 30, 31, 32, 33, 34, 35, 60, 61, 62, 63, 64, 65, 66, 67, 68, 69, 70, 71, 72, 73, 74, 75, 76, 77, 78, 79, 80, 81, 82, 83, 84, 85, 86, 87] (by decide +kernel) (by decide +kernel)
set_option maxRecDepth 20000 in
theorem gX7_tentHere_X7_next : GoodIn wsX7_tentHere (wsV RX7 275 RX7 yX7_next wsX7_next) := goodIn_app (goodIn_of _ (by decide +kernel)) ggX7_tentHere_X7_next
set_option maxRecDepth 20000 in
theorem ggX7_tentHere_X7_isWord : GoodIn wsX7_tentHere wsX7_isWord := goodIn_r _ [39, 4, 5, 60, 61, 62, 63, 64, 65, 66, 67, 68, 69, 70, 71, 72, 73, 74, 75, 76, 77, 78, 79, 80, 81, 82, 83, 84, 85, 86, 87] (by decide +kernel) (by decide +kernel)
set_option maxRecDepth 20000 in
theorem gX7_tentHere_X7_isWord : GoodIn wsX7_tentHere (wsV RX7 256 RX7 yX7_isWord wsX7_isWord) := goodIn_app (goodIn_of _ (by decide +kernel)) ggX7_tentHere_X7_isWord
set_option maxRecDepth 20000 in
theorem ggX7_tentHere_X7_numberHere : GoodIn wsX7_tentHere wsX7_numberHere := goodIn_r _ [43, 5, 4, 8, 9, 10, 11, 12, 3, 13, 14, 15, 16, 17, 18, 19, 20, 21, 22, 23, 24, 25, 26, 27, 28, 29, 30, 31, 32, 33, 34, 35, 60, 61, 62, 63, 64, 65, 66, 67, 68, 69, 70, 71, 72, 73, 74, 75, 76, 77, 78, 79, 80, 81, 82, 83, 84, 85, 86, 87] (by decide +kernel) (by decide +kernel)
set_option maxRecDepth 20000 in
theorem gX7_tentHere_X7_numberHere : GoodIn wsX7_tentHere (wsV RX7 280 RX7 yX7_numberHere wsX7_numberHere) := goodIn_app (goodIn_of _ (by decide +kernel)) ggX7_tentHere_X7_numberHere
set_option maxRecDepth 20000 in
theorem ggX7_tentHere_X7_whoIs : GoodIn wsX7_tentHere wsX7_whoIs := goodIn_r _ [47, 1, 48, 49, 50, 11, 51, 60, 61, 62, 63, 64, 65, 66, 67, 68, 69, 70, 71, 72, 73, 74, 75, 76, 77, 78, 79, 80, 81, 82, 83, 84, 85, 86, 87] (by decide +kernel) (by decide +kernel)
set_option maxRecDepth 20000 in
theorem gX7_tentHere_X7_whoIs : GoodIn wsX7_tentHere (wsV RX7 109 RX7 yX7_whoIs wsX7_whoIs) := goodIn_app (goodIn_of _ (by decide +kernel)) ggX7_tentHere_X7_whoIs
set_option maxRecDepth 20000 in
theorem ggX7_tentHere_X7_comes : GoodIn wsX7_tentHere wsX7_comes := goodIn_r _ [55, 1, 60, 61, 62, 63, 64, 65, 66, 67, 68, 69, 70, 71, 72, 73, 74, 75, 76, 77, 78, 79, 80, 81, 82, 83, 84, 85, 86, 87] (by decide +kernel) (by decide +kernel)
set_option maxRecDepth 20000 in
theorem gX7_tentHere_X7_comes : GoodIn wsX7_tentHere (wsV RX7 112 RX7 yX7_comes wsX7_comes) := goodIn_app (goodIn_of _ (by decide +kernel)) ggX7_tentHere_X7_comes
set_option maxRecDepth 20000 in
theorem ggX7_tentHere_X7_sayOf : GoodIn wsX7_tentHere wsX7_sayOf := goodIn_r _ [59, 1, 60, 61, 62, 63, 64, 65, 66, 67, 68, 69, 70, 71, 72, 73, 74, 75, 76, 77, 78, 79, 80, 81, 82, 83, 84, 85, 86, 87] (by decide +kernel) (by decide +kernel)
set_option maxRecDepth 20000 in
theorem gX7_tentHere_X7_sayOf : GoodIn wsX7_tentHere (wsV RX7 132 RX7 yX7_sayOf wsX7_sayOf) := goodIn_app (goodIn_of _ (by decide +kernel)) ggX7_tentHere_X7_sayOf
theorem dX7_tentHere_0 : decode cX7_tentHere 0 = .ok (.aload_n 0, 1) := by decide +kernel
theorem dX7_tentHere_1 : decode cX7_tentHere 1 = .ok (.getfield 7, 3) := by decide +kernel
theorem dX7_tentHere_4 : decode cX7_tentHere 4 = .ok (.iconst 0, 1) := by decide +kernel
theorem dX7_tentHere_5 : decode cX7_tentHere 5 = .ok (.iaload, 1) := by decide +kernel
theorem dX7_tentHere_6 : decode cX7_tentHere 6 = .ok (.bipush 10, 2) := by decide +kernel
theorem dX7_tentHere_8 : decode cX7_tentHere 8 = .ok (.if_icmp .ne 8, 3) := by decide +kernel
theorem dX7_tentHere_11 : decode cX7_tentHere 11 = .ok (.aload_n 0, 1) := by decide +kernel
theorem dX7_tentHere_12 : decode cX7_tentHere 12 = .ok (.invokevirtual 272, 3) := by decide +kernel
theorem dX7_tentHere_15 : decode cX7_tentHere 15 = .ok (.return_, 1) := by decide +kernel
theorem dX7_tentHere_16 : decode cX7_tentHere 16 = .ok (.aload_n 0, 1) := by decide +kernel
theorem dX7_tentHere_17 : decode cX7_tentHere 17 = .ok (.invokevirtual 275, 3) := by decide +kernel
theorem dX7_tentHere_20 : decode cX7_tentHere 20 = .ok (.aload_n 0, 1) := by decide +kernel
theorem dX7_tentHere_21 : decode cX7_tentHere 21 = .ok (.ldc2_w 278, 3) := by decide +kernel
theorem dX7_tentHere_24 : decode cX7_tentHere 24 = .ok (.invokevirtual 256, 3) := by decide +kernel
theorem dX7_tentHere_27 : decode cX7_tentHere 27 = .ok (.ifCond .ne 8, 3) := by decide +kernel
theorem dX7_tentHere_30 : decode cX7_tentHere 30 = .ok (.aload_n 0, 1) := by decide +kernel
theorem dX7_tentHere_31 : decode cX7_tentHere 31 = .ok (.invokevirtual 272, 3) := by decide +kernel
theorem dX7_tentHere_34 : decode cX7_tentHere 34 = .ok (.return_, 1) := by decide +kernel
theorem dX7_tentHere_35 : decode cX7_tentHere 35 = .ok (.aload_n 0, 1) := by decide +kernel
theorem dX7_tentHere_36 : decode cX7_tentHere 36 = .ok (.invokevirtual 275, 3) := by decide +kernel
theorem dX7_tentHere_39 : decode cX7_tentHere 39 = .ok (.aload_n 0, 1) := by decide +kernel
theorem dX7_tentHere_40 : decode cX7_tentHere 40 = .ok (.bipush 11, 2) := by decide +kernel
theorem dX7_tentHere_42 : decode cX7_tentHere 42 = .ok (.invokevirtual 280, 3) := by decide +kernel
theorem dX7_tentHere_45 : decode cX7_tentHere 45 = .ok (.istore_n 2, 1) := by decide +kernel
theorem dX7_tentHere_46 : decode cX7_tentHere 46 = .ok (.aload_n 0, 1) := by decide +kernel
theorem dX7_tentHere_47 : decode cX7_tentHere 47 = .ok (.getfield 251, 3) := by decide +kernel
theorem dX7_tentHere_50 : decode cX7_tentHere 50 = .ok (.ifCond .lt 4, 3) := by decide +kernel
theorem dX7_tentHere_53 : decode cX7_tentHere 53 = .ok (.return_, 1) := by decide +kernel
theorem dX7_tentHere_54 : decode cX7_tentHere 54 = .ok (.aload_n 0, 1) := by decide +kernel
theorem dX7_tentHere_55 : decode cX7_tentHere 55 = .ok (.getfield 232, 3) := by decide +kernel
theorem dX7_tentHere_58 : decode cX7_tentHere 58 = .ok (.iconst 2, 1) := by decide +kernel
theorem dX7_tentHere_59 : decode cX7_tentHere 59 = .ok (.if_icmp .ne 32, 3) := by decide +kernel
theorem dX7_tentHere_62 : decode cX7_tentHere 62 = .ok (.aload_n 0, 1) := by decide +kernel
theorem dX7_tentHere_63 : decode cX7_tentHere 63 = .ok (.getfield 228, 3) := by decide +kernel
theorem dX7_tentHere_66 : decode cX7_tentHere 66 = .ok (.ldc2_w 62, 3) := by decide +kernel
theorem dX7_tentHere_69 : decode cX7_tentHere 69 = .ok (.lcmp, 1) := by decide +kernel
theorem dX7_tentHere_70 : decode cX7_tentHere 70 = .ok (.ifCond .gt 21, 3) := by decide +kernel
theorem dX7_tentHere_73 : decode cX7_tentHere 73 = .ok (.aload_n 0, 1) := by decide +kernel
theorem dX7_tentHere_74 : decode cX7_tentHere 74 = .ok (.bipush 12, 2) := by decide +kernel
theorem dX7_tentHere_76 : decode cX7_tentHere 76 = .ok (.aload_n 0, 1) := by decide +kernel
theorem dX7_tentHere_77 : decode cX7_tentHere 77 = .ok (.getfield 228, 3) := by decide +kernel
theorem dX7_tentHere_80 : decode cX7_tentHere 80 = .ok (.l2i, 1) := by decide +kernel
theorem dX7_tentHere_81 : decode cX7_tentHere 81 = .ok (.imul, 1) := by decide +kernel
theorem dX7_tentHere_82 : decode cX7_tentHere 82 = .ok (.iload_n 2, 1) := by decide +kernel
theorem dX7_tentHere_83 : decode cX7_tentHere 83 = .ok (.iadd, 1) := by decide +kernel
theorem dX7_tentHere_84 : decode cX7_tentHere 84 = .ok (.invokevirtual 109, 3) := by decide +kernel
theorem dX7_tentHere_87 : decode cX7_tentHere 87 = .ok (.iconst (-1), 1) := by decide +kernel
theorem dX7_tentHere_88 : decode cX7_tentHere 88 = .ok (.if_icmp .ne 7, 3) := by decide +kernel
theorem dX7_tentHere_91 : decode cX7_tentHere 91 = .ok (.iconst 1, 1) := by decide +kernel
theorem dX7_tentHere_92 : decode cX7_tentHere 92 = .ok (.goto 4, 3) := by decide +kernel
theorem dX7_tentHere_95 : decode cX7_tentHere 95 = .ok (.iconst 0, 1) := by decide +kernel
theorem dX7_tentHere_96 : decode cX7_tentHere 96 = .ok (.istore_n 3, 1) := by decide +kernel
theorem dX7_tentHere_97 : decode cX7_tentHere 97 = .ok (.iload_n 3, 1) := by decide +kernel
theorem dX7_tentHere_98 : decode cX7_tentHere 98 = .ok (.ifCond .ne 8, 3) := by decide +kernel
theorem dX7_tentHere_101 : decode cX7_tentHere 101 = .ok (.aload_n 0, 1) := by decide +kernel
theorem dX7_tentHere_102 : decode cX7_tentHere 102 = .ok (.invokevirtual 272, 3) := by decide +kernel
theorem dX7_tentHere_105 : decode cX7_tentHere 105 = .ok (.return_, 1) := by decide +kernel
theorem dX7_tentHere_106 : decode cX7_tentHere 106 = .ok (.aload_n 0, 1) := by decide +kernel
theorem dX7_tentHere_107 : decode cX7_tentHere 107 = .ok (.bipush 11, 2) := by decide +kernel
theorem dX7_tentHere_109 : decode cX7_tentHere 109 = .ok (.invokevirtual 280, 3) := by decide +kernel
theorem dX7_tentHere_112 : decode cX7_tentHere 112 = .ok (.istore 4, 2) := by decide +kernel
theorem dX7_tentHere_114 : decode cX7_tentHere 114 = .ok (.aload_n 0, 1) := by decide +kernel
theorem dX7_tentHere_115 : decode cX7_tentHere 115 = .ok (.getfield 251, 3) := by decide +kernel
theorem dX7_tentHere_118 : decode cX7_tentHere 118 = .ok (.ifCond .lt 4, 3) := by decide +kernel
theorem dX7_tentHere_121 : decode cX7_tentHere 121 = .ok (.return_, 1) := by decide +kernel
theorem dX7_tentHere_122 : decode cX7_tentHere 122 = .ok (.aload_n 0, 1) := by decide +kernel
theorem dX7_tentHere_123 : decode cX7_tentHere 123 = .ok (.iload_n 1, 1) := by decide +kernel
theorem dX7_tentHere_124 : decode cX7_tentHere 124 = .ok (.bipush 12, 2) := by decide +kernel
theorem dX7_tentHere_126 : decode cX7_tentHere 126 = .ok (.iload 4, 2) := by decide +kernel
theorem dX7_tentHere_128 : decode cX7_tentHere 128 = .ok (.imul, 1) := by decide +kernel
theorem dX7_tentHere_129 : decode cX7_tentHere 129 = .ok (.iload_n 2, 1) := by decide +kernel
theorem dX7_tentHere_130 : decode cX7_tentHere 130 = .ok (.iadd, 1) := by decide +kernel
theorem dX7_tentHere_131 : decode cX7_tentHere 131 = .ok (.invokevirtual 112, 3) := by decide +kernel
theorem dX7_tentHere_134 : decode cX7_tentHere 134 = .ok (.istore 5, 2) := by decide +kernel
theorem dX7_tentHere_136 : decode cX7_tentHere 136 = .ok (.aload_n 0, 1) := by decide +kernel
theorem dX7_tentHere_137 : decode cX7_tentHere 137 = .ok (.ldc2_w 283, 3) := by decide +kernel
theorem dX7_tentHere_140 : decode cX7_tentHere 140 = .ok (.invokevirtual 256, 3) := by decide +kernel
theorem dX7_tentHere_143 : decode cX7_tentHere 143 = .ok (.ifCond .eq 14, 3) := by decide +kernel
theorem dX7_tentHere_146 : decode cX7_tentHere 146 = .ok (.aload_n 0, 1) := by decide +kernel
theorem dX7_tentHere_147 : decode cX7_tentHere 147 = .ok (.iload 5, 2) := by decide +kernel
theorem dX7_tentHere_149 : decode cX7_tentHere 149 = .ok (.iconst 1, 1) := by decide +kernel
theorem dX7_tentHere_150 : decode cX7_tentHere 150 = .ok (.invokevirtual 132, 3) := by decide +kernel
theorem dX7_tentHere_153 : decode cX7_tentHere 153 = .ok (.aload_n 0, 1) := by decide +kernel
theorem dX7_tentHere_154 : decode cX7_tentHere 154 = .ok (.invokevirtual 275, 3) := by decide +kernel
theorem dX7_tentHere_157 : decode cX7_tentHere 157 = .ok (.return_, 1) := by decide +kernel
set_option maxRecDepth 20000 in
theorem ggX7_wallHere_X7_next : GoodIn wsX7_wallHere wsX7_next := goodIn_r _ [8, 9, 10, 11, 12, 13, 14, 15, 16, 17, 18, 19, 20, 21, 7, 22, 23, 24, 25, 26, 27, 28, 29, 42, 43, 44, 45, 46, 47, 48, 49, 50, 51, 52, 53, 54, 55, 56, 57, 58, 59, 60, 61, 62, 63, 64, 65, 66, 67, 68, 69] (by decide +kernel) (by decide +kernel)
set_option maxRecDepth 20000 in
theorem gX7_wallHere_X7_next : GoodIn wsX7_wallHere (wsV RX7 275 RX7 yX7_next wsX7_next) := goodIn_app (goodIn_of _ (by decide +kernel)) ggX7_wallHere_X7_next
set_option maxRecDepth 20000 in
theorem ggX7_wallHere_X7_numberHere : GoodIn wsX7_wallHere wsX7_numberHere := goodIn_r _ [33, 11, 13, 34, 35, 36, 7, 37, 1, 10, 4, 5, 6, 8, 9, 12, 14, 15, 16, 17, 18, 19, 20, 21, 22, 23, 24, 25, 26, 27, 28, 29, 42, 43, 44, 45, 46, 47, 48, 49, 50, 51, 52, 53, 54, 55, 56, 57, 58, 59, 60, 61, 62, 63, 64, 65, 66, 67, 68, 69] (by decide +kernel) (by decide +kernel)
set_option maxRecDepth 20000 in
theorem gX7_wallHere_X7_numberHere : GoodIn wsX7_wallHere (wsV RX7 280 RX7 yX7_numberHere wsX7_numberHere) := goodIn_app (goodIn_of _ (by decide +kernel)) ggX7_wallHere_X7_numberHere
set_option maxRecDepth 20000 in
theorem ggX7_wallHere_X7_isWord : GoodIn wsX7_wallHere wsX7_isWord := goodIn_r _ [41, 13, 11, 42, 43, 44, 45, 46, 47, 48, 49, 50, 51, 52, 53, 54, 55, 56, 57, 58, 59, 60, 61, 62, 63, 64, 65, 66, 67, 68, 69] (by decide +kernel) (by decide +kernel)
set_option maxRecDepth 20000 in
theorem gX7_wallHere_X7_isWord : GoodIn wsX7_wallHere (wsV RX7 256 RX7 yX7_isWord wsX7_isWord) := goodIn_app (goodIn_of _ (by decide +kernel)) ggX7_wallHere_X7_isWord
theorem dX7_wallHere_0 : decode cX7_wallHere 0 = .ok (.aload_n 0, 1) := by decide +kernel
theorem dX7_wallHere_1 : decode cX7_wallHere 1 = .ok (.invokevirtual 275, 3) := by decide +kernel
theorem dX7_wallHere_4 : decode cX7_wallHere 4 = .ok (.aload_n 0, 1) := by decide +kernel
theorem dX7_wallHere_5 : decode cX7_wallHere 5 = .ok (.bipush 11, 2) := by decide +kernel
theorem dX7_wallHere_7 : decode cX7_wallHere 7 = .ok (.invokevirtual 280, 3) := by decide +kernel
theorem dX7_wallHere_10 : decode cX7_wallHere 10 = .ok (.istore_n 1, 1) := by decide +kernel
theorem dX7_wallHere_11 : decode cX7_wallHere 11 = .ok (.aload_n 0, 1) := by decide +kernel
theorem dX7_wallHere_12 : decode cX7_wallHere 12 = .ok (.getfield 251, 3) := by decide +kernel
theorem dX7_wallHere_15 : decode cX7_wallHere 15 = .ok (.ifCond .lt 4, 3) := by decide +kernel
theorem dX7_wallHere_18 : decode cX7_wallHere 18 = .ok (.return_, 1) := by decide +kernel
theorem dX7_wallHere_19 : decode cX7_wallHere 19 = .ok (.aload_n 0, 1) := by decide +kernel
theorem dX7_wallHere_20 : decode cX7_wallHere 20 = .ok (.getfield 7, 3) := by decide +kernel
theorem dX7_wallHere_23 : decode cX7_wallHere 23 = .ok (.iconst 3, 1) := by decide +kernel
theorem dX7_wallHere_24 : decode cX7_wallHere 24 = .ok (.iload_n 1, 1) := by decide +kernel
theorem dX7_wallHere_25 : decode cX7_wallHere 25 = .ok (.iastore, 1) := by decide +kernel
theorem dX7_wallHere_26 : decode cX7_wallHere 26 = .ok (.aload_n 0, 1) := by decide +kernel
theorem dX7_wallHere_27 : decode cX7_wallHere 27 = .ok (.ldc2_w 285, 3) := by decide +kernel
theorem dX7_wallHere_30 : decode cX7_wallHere 30 = .ok (.invokevirtual 256, 3) := by decide +kernel
theorem dX7_wallHere_33 : decode cX7_wallHere 33 = .ok (.ifCond .eq 37, 3) := by decide +kernel
theorem dX7_wallHere_36 : decode cX7_wallHere 36 = .ok (.aload_n 0, 1) := by decide +kernel
theorem dX7_wallHere_37 : decode cX7_wallHere 37 = .ok (.invokevirtual 275, 3) := by decide +kernel
theorem dX7_wallHere_40 : decode cX7_wallHere 40 = .ok (.aload_n 0, 1) := by decide +kernel
theorem dX7_wallHere_41 : decode cX7_wallHere 41 = .ok (.bipush 11, 2) := by decide +kernel
theorem dX7_wallHere_43 : decode cX7_wallHere 43 = .ok (.invokevirtual 280, 3) := by decide +kernel
theorem dX7_wallHere_46 : decode cX7_wallHere 46 = .ok (.istore_n 2, 1) := by decide +kernel
theorem dX7_wallHere_47 : decode cX7_wallHere 47 = .ok (.aload_n 0, 1) := by decide +kernel
theorem dX7_wallHere_48 : decode cX7_wallHere 48 = .ok (.getfield 7, 3) := by decide +kernel
theorem dX7_wallHere_51 : decode cX7_wallHere 51 = .ok (.iconst 4, 1) := by decide +kernel
theorem dX7_wallHere_52 : decode cX7_wallHere 52 = .ok (.aload_n 0, 1) := by decide +kernel
theorem dX7_wallHere_53 : decode cX7_wallHere 53 = .ok (.getfield 251, 3) := by decide +kernel
theorem dX7_wallHere_56 : decode cX7_wallHere 56 = .ok (.ifCond .ge 7, 3) := by decide +kernel
theorem dX7_wallHere_59 : decode cX7_wallHere 59 = .ok (.iload_n 2, 1) := by decide +kernel
theorem dX7_wallHere_60 : decode cX7_wallHere 60 = .ok (.goto 9, 3) := by decide +kernel
theorem dX7_wallHere_63 : decode cX7_wallHere 63 = .ok (.aload_n 0, 1) := by decide +kernel
theorem dX7_wallHere_64 : decode cX7_wallHere 64 = .ok (.getfield 7, 3) := by decide +kernel
theorem dX7_wallHere_67 : decode cX7_wallHere 67 = .ok (.iconst 4, 1) := by decide +kernel
theorem dX7_wallHere_68 : decode cX7_wallHere 68 = .ok (.iaload, 1) := by decide +kernel
theorem dX7_wallHere_69 : decode cX7_wallHere 69 = .ok (.iastore, 1) := by decide +kernel
theorem dX7_wallHere_70 : decode cX7_wallHere 70 = .ok (.return_, 1) := by decide +kernel
set_option maxRecDepth 20000 in
theorem ggX7_item_X7_kindHere : GoodIn wsX7_item wsX7_kindHere := goodIn_r _ [9, 10, 11, 12, 13, 14, 15, 16, 17, 18, 19, 8, 20, 21, 22, 83, 84, 85, 86, 87, 88, 89, 90, 91, 92, 93, 94, 95, 96, 97, 98, 99, 100, 101, 102, 103, 104, 105, 106, 107, 108, 109, 110] (by decide +kernel) (by decide +kernel)
set_option maxRecDepth 20000 in
theorem gX7_item_X7_kindHere : GoodIn wsX7_item (wsV RX7 287 RX7 yX7_kindHere wsX7_kindHere) := goodIn_app (goodIn_of _ (by decide +kernel)) ggX7_item_X7_kindHere
set_option maxRecDepth 20000 in
theorem ggX7_item_X7_tentHere : GoodIn wsX7_item wsX7_tentHere := goodIn_r _ [26, 4, 27, 28, 21, 22, 29, 30, 31, 32, 33, 8, 34, 35, 36, 37, 38, 39, 40, 41, 42, 43, 44, 45, 46, 47, 48, 49, 50, 51, 52, 53, 54, 55, 56, 57, 17, 18, 19, 20, 58, 59, 60, 61, 62, 63, 64, 65, 66, 67, 68, 69, 70, 71, 72, 73, 74, 75, 76, 77, 83, 84, 85, 86, 87, 88, 89, 90, 91, 92, 93, 94, 95, 96, 97, 98, 99, 100, 101, 102, 103, 104, 105, 106, 107, 108, 109, 110] (by decide +kernel) (by decide +kernel)
set_option maxRecDepth 20000 in
theorem gX7_item_X7_tentHere : GoodIn wsX7_item (wsV RX7 290 RX7 yX7_tentHere wsX7_tentHere) := goodIn_app (goodIn_of _ (by decide +kernel)) ggX7_item_X7_tentHere
set_option maxRecDepth 20000 in
theorem ggX7_item_X7_isWord : GoodIn wsX7_item wsX7_isWord := goodIn_r _ [20, 21, 22, 83, 84, 85, 86, 87, 88, 89, 90, 91, 92, 93, 94, 95, 96, 97, 98, 99, 100, 101, 102, 103, 104, 105, 106, 107, 108, 109, 110] (by decide +kernel) (by decide +kernel)
set_option maxRecDepth 20000 in
theorem gX7_item_X7_isWord : GoodIn wsX7_item (wsV RX7 256 RX7 yX7_isWord wsX7_isWord) := goodIn_app (goodIn_of _ (by decide +kernel)) ggX7_item_X7_isWord
set_option maxRecDepth 20000 in
theorem ggX7_item_X7_wallHere : GoodIn wsX7_item wsX7_wallHere := goodIn_r _ [81, 28, 4, 82, 36, 37, 38, 8, 39, 40, 35, 22, 41, 21, 42, 43, 44, 45, 46, 47, 48, 49, 50, 51, 52, 53, 54, 55, 56, 57, 58, 59, 60, 61, 31, 32, 33, 34, 17, 18, 19, 20, 83, 84, 85, 86, 87, 88, 89, 90, 91, 92, 93, 94, 95, 96, 97, 98, 99, 100, 101, 102, 103, 104, 105, 106, 107, 108, 109, 110] (by decide +kernel) (by decide +kernel)
set_option maxRecDepth 20000 in
theorem gX7_item_X7_wallHere : GoodIn wsX7_item (wsV RX7 295 RX7 yX7_wallHere wsX7_wallHere) := goodIn_app (goodIn_of _ (by decide +kernel)) ggX7_item_X7_wallHere
set_option maxRecDepth 20000 in
theorem ggX7_item_X7_next : GoodIn wsX7_item wsX7_next := goodIn_r _ [39, 40, 35, 22, 41, 21, 42, 43, 44, 45, 46, 47, 48, 49, 8, 50, 51, 52, 53, 54, 55, 56, 57, 83, 84, 85, 86, 87, 88, 89, 90, 91, 92, 93, 94, 95, 96, 97, 98, 99, 100, 101, 102, 103, 104, 105, 106, 107, 108, 109, 110] (by decide +kernel) (by decide +kernel)
set_option maxRecDepth 20000 in
theorem gX7_item_X7_next : GoodIn wsX7_item (wsV RX7 275 RX7 yX7_next wsX7_next) := goodIn_app (goodIn_of _ (by decide +kernel)) ggX7_item_X7_next
set_option maxRecDepth 20000 in
theorem ggX7_item_X7_wrongHere : GoodIn wsX7_item wsX7_wrongHere := goodIn_r _ [34, 28, 35, 83, 84, 85, 86, 87, 88, 89, 90, 91, 92, 93, 94, 95, 96, 97, 98, 99, 100, 101, 102, 103, 104, 105, 106, 107, 108, 109, 110] (by decide +kernel) (by decide +kernel)
set_option maxRecDepth 20000 in
theorem gX7_item_X7_wrongHere : GoodIn wsX7_item (wsV RX7 272 RX7 yX7_wrongHere wsX7_wrongHere) := goodIn_app (goodIn_of _ (by decide +kernel)) ggX7_item_X7_wrongHere
theorem dX7_item_0 : decode cX7_item 0 = .ok (.aload_n 0, 1) := by decide +kernel
theorem dX7_item_1 : decode cX7_item 1 = .ok (.invokevirtual 287, 3) := by decide +kernel
theorem dX7_item_4 : decode cX7_item 4 = .ok (.istore_n 1, 1) := by decide +kernel
theorem dX7_item_5 : decode cX7_item 5 = .ok (.iload_n 1, 1) := by decide +kernel
theorem dX7_item_6 : decode cX7_item 6 = .ok (.ifCond .lt 11, 3) := by decide +kernel
theorem dX7_item_9 : decode cX7_item 9 = .ok (.aload_n 0, 1) := by decide +kernel
theorem dX7_item_10 : decode cX7_item 10 = .ok (.iload_n 1, 1) := by decide +kernel
theorem dX7_item_11 : decode cX7_item 11 = .ok (.invokevirtual 290, 3) := by decide +kernel
theorem dX7_item_14 : decode cX7_item 14 = .ok (.goto 72, 3) := by decide +kernel
theorem dX7_item_17 : decode cX7_item 17 = .ok (.aload_n 0, 1) := by decide +kernel
theorem dX7_item_18 : decode cX7_item 18 = .ok (.ldc2_w 293, 3) := by decide +kernel
theorem dX7_item_21 : decode cX7_item 21 = .ok (.invokevirtual 256, 3) := by decide +kernel
theorem dX7_item_24 : decode cX7_item 24 = .ok (.ifCond .eq 10, 3) := by decide +kernel
theorem dX7_item_27 : decode cX7_item 27 = .ok (.aload_n 0, 1) := by decide +kernel
theorem dX7_item_28 : decode cX7_item 28 = .ok (.invokevirtual 295, 3) := by decide +kernel
theorem dX7_item_31 : decode cX7_item 31 = .ok (.goto 55, 3) := by decide +kernel
theorem dX7_item_34 : decode cX7_item 34 = .ok (.aload_n 0, 1) := by decide +kernel
theorem dX7_item_35 : decode cX7_item 35 = .ok (.ldc2_w 298, 3) := by decide +kernel
theorem dX7_item_38 : decode cX7_item 38 = .ok (.invokevirtual 256, 3) := by decide +kernel
theorem dX7_item_41 : decode cX7_item 41 = .ok (.ifCond .ne 13, 3) := by decide +kernel
theorem dX7_item_44 : decode cX7_item 44 = .ok (.aload_n 0, 1) := by decide +kernel
theorem dX7_item_45 : decode cX7_item 45 = .ok (.ldc2_w 300, 3) := by decide +kernel
theorem dX7_item_48 : decode cX7_item 48 = .ok (.invokevirtual 256, 3) := by decide +kernel
theorem dX7_item_51 : decode cX7_item 51 = .ok (.ifCond .eq 31, 3) := by decide +kernel
theorem dX7_item_54 : decode cX7_item 54 = .ok (.aload_n 0, 1) := by decide +kernel
theorem dX7_item_55 : decode cX7_item 55 = .ok (.getfield 7, 3) := by decide +kernel
theorem dX7_item_58 : decode cX7_item 58 = .ok (.iconst 5, 1) := by decide +kernel
theorem dX7_item_59 : decode cX7_item 59 = .ok (.aload_n 0, 1) := by decide +kernel
theorem dX7_item_60 : decode cX7_item 60 = .ok (.ldc2_w 298, 3) := by decide +kernel
theorem dX7_item_63 : decode cX7_item 63 = .ok (.invokevirtual 256, 3) := by decide +kernel
theorem dX7_item_66 : decode cX7_item 66 = .ok (.ifCond .eq 7, 3) := by decide +kernel
theorem dX7_item_69 : decode cX7_item 69 = .ok (.iconst 1, 1) := by decide +kernel
theorem dX7_item_70 : decode cX7_item 70 = .ok (.goto 4, 3) := by decide +kernel
theorem dX7_item_73 : decode cX7_item 73 = .ok (.iconst 0, 1) := by decide +kernel
theorem dX7_item_74 : decode cX7_item 74 = .ok (.iastore, 1) := by decide +kernel
theorem dX7_item_75 : decode cX7_item 75 = .ok (.aload_n 0, 1) := by decide +kernel
theorem dX7_item_76 : decode cX7_item 76 = .ok (.invokevirtual 275, 3) := by decide +kernel
theorem dX7_item_79 : decode cX7_item 79 = .ok (.goto 7, 3) := by decide +kernel
theorem dX7_item_82 : decode cX7_item 82 = .ok (.aload_n 0, 1) := by decide +kernel
theorem dX7_item_83 : decode cX7_item 83 = .ok (.invokevirtual 272, 3) := by decide +kernel
theorem dX7_item_86 : decode cX7_item 86 = .ok (.return_, 1) := by decide +kernel
set_option maxRecDepth 20000 in
theorem ggX7_items_X7_next : GoodIn wsX7_items wsX7_next := goodIn_r _ [8, 1, 9, 10, 11, 3, 12, 13, 14, 15, 16, 17, 18, 19, 7, 20, 21, 22, 23, 24, 25, 26, 27, 87, 88, 89, 90, 91, 92, 93, 94, 95, 96, 97, 98, 99, 100, 101, 102, 103, 104, 105, 106, 107, 108, 109, 110, 111, 112, 113, 114] (by decide +kernel) (by decide +kernel)
set_option maxRecDepth 20000 in
theorem gX7_items_X7_next : GoodIn wsX7_items (wsV RX7 275 RX7 yX7_next wsX7_next) := goodIn_app (goodIn_of _ (by decide +kernel)) ggX7_items_X7_next
set_option maxRecDepth 20000 in
theorem ggX7_items_X7_item : GoodIn wsX7_items wsX7_item := goodIn_r _ [31, 32, 33, 34, 35, 36, 37, 38, 7, 39, 40, 41, 42, 43, 44, 45, 46, 47, 48, 49, 50, 3, 10, 51, 52, 53, 54, 55, 2, 56, 57, 58, 59, 60, 61, 9, 4, 5, 6, 8, 1, 11, 12, 13, 14, 15, 16, 17, 18, 19, 20, 21, 22, 23, 24, 25, 26, 27, 62, 63, 64, 65, 66, 67, 68, 69, 70, 71, 72, 73, 74, 75, 76, 77, 78, 79, 80, 81, 82, 83, 84, 85, 86, 87, 88, 89, 90, 91, 92, 93, 94, 95, 96, 97, 98, 99, 100, 101, 102, 103, 104, 105, 106, 107, 108, 109, 110, 111, 112, 113, 114] (by decide +kernel) (by decide +kernel)
set_option maxRecDepth 20000 in
theorem gX7_items_X7_item : GoodIn wsX7_items (wsV RX7 302 RX7 yX7_item wsX7_item) := goodIn_app (goodIn_of _ (by decide +kernel)) ggX7_items_X7_item
set_option maxRecDepth 20000 in
theorem ggX7_items_X7_wrongHere : GoodIn wsX7_items wsX7_wrongHere := goodIn_r _ [61, 2, 9, 87, 88, 89, 90, 91, 92, 93, 94, 95, 96, 97, 98, 99, 100, 101, 102, 103, 104, 105, 106, 107, 108, 109, 110, 111, 112, 113, 114] (by decide +kernel) (by decide +kernel)
set_option maxRecDepth 20000 in
theorem gX7_items_X7_wrongHere : GoodIn wsX7_items (wsV RX7 272 RX7 yX7_wrongHere wsX7_wrongHere) := goodIn_app (goodIn_of _ (by decide +kernel)) ggX7_items_X7_wrongHere
theorem dX7_items_0 : decode cX7_items 0 = .ok (.aload_n 0, 1) := by decide +kernel
theorem dX7_items_1 : decode cX7_items 1 = .ok (.iconst 0, 1) := by decide +kernel
theorem dX7_items_2 : decode cX7_items 2 = .ok (.putfield 219, 3) := by decide +kernel
theorem dX7_items_5 : decode cX7_items 5 = .ok (.aload_n 0, 1) := by decide +kernel
theorem dX7_items_6 : decode cX7_items 6 = .ok (.iconst (-1), 1) := by decide +kernel
theorem dX7_items_7 : decode cX7_items 7 = .ok (.putfield 251, 3) := by decide +kernel
theorem dX7_items_10 : decode cX7_items 10 = .ok (.aload_n 0, 1) := by decide +kernel
theorem dX7_items_11 : decode cX7_items 11 = .ok (.invokevirtual 275, 3) := by decide +kernel
theorem dX7_items_14 : decode cX7_items 14 = .ok (.aload_n 0, 1) := by decide +kernel
theorem dX7_items_15 : decode cX7_items 15 = .ok (.invokevirtual 302, 3) := by decide +kernel
theorem dX7_items_18 : decode cX7_items 18 = .ok (.iconst 1, 1) := by decide +kernel
theorem dX7_items_19 : decode cX7_items 19 = .ok (.istore_n 1, 1) := by decide +kernel
theorem dX7_items_20 : decode cX7_items 20 = .ok (.aload_n 0, 1) := by decide +kernel
theorem dX7_items_21 : decode cX7_items 21 = .ok (.getfield 251, 3) := by decide +kernel
theorem dX7_items_24 : decode cX7_items 24 = .ok (.ifCond .ge 25, 3) := by decide +kernel
theorem dX7_items_27 : decode cX7_items 27 = .ok (.aload_n 0, 1) := by decide +kernel
theorem dX7_items_28 : decode cX7_items 28 = .ok (.getfield 232, 3) := by decide +kernel
theorem dX7_items_31 : decode cX7_items 31 = .ok (.iconst 3, 1) := by decide +kernel
theorem dX7_items_32 : decode cX7_items 32 = .ok (.if_icmp .ne 17, 3) := by decide +kernel
theorem dX7_items_35 : decode cX7_items 35 = .ok (.aload_n 0, 1) := by decide +kernel
theorem dX7_items_36 : decode cX7_items 36 = .ok (.invokevirtual 275, 3) := by decide +kernel
theorem dX7_items_39 : decode cX7_items 39 = .ok (.aload_n 0, 1) := by decide +kernel
theorem dX7_items_40 : decode cX7_items 40 = .ok (.invokevirtual 302, 3) := by decide +kernel
theorem dX7_items_43 : decode cX7_items 43 = .ok (.iinc 1 1, 3) := by decide +kernel
theorem dX7_items_46 : decode cX7_items 46 = .ok (.goto (-26), 3) := by decide +kernel
theorem dX7_items_49 : decode cX7_items 49 = .ok (.aload_n 0, 1) := by decide +kernel
theorem dX7_items_50 : decode cX7_items 50 = .ok (.getfield 251, 3) := by decide +kernel
theorem dX7_items_53 : decode cX7_items 53 = .ok (.ifCond .ge 14, 3) := by decide +kernel
theorem dX7_items_56 : decode cX7_items 56 = .ok (.aload_n 0, 1) := by decide +kernel
theorem dX7_items_57 : decode cX7_items 57 = .ok (.getfield 232, 3) := by decide +kernel
theorem dX7_items_60 : decode cX7_items 60 = .ok (.ifCond .eq 7, 3) := by decide +kernel
theorem dX7_items_63 : decode cX7_items 63 = .ok (.aload_n 0, 1) := by decide +kernel
theorem dX7_items_64 : decode cX7_items 64 = .ok (.invokevirtual 272, 3) := by decide +kernel
theorem dX7_items_67 : decode cX7_items 67 = .ok (.iload_n 1, 1) := by decide +kernel
theorem dX7_items_68 : decode cX7_items 68 = .ok (.ireturn, 1) := by decide +kernel
set_option maxRecDepth 20000 in
theorem ggX7_text_X7_copies : GoodIn wsX7_text wsX7_copies := goodIn_r _ [8] (by decide +kernel) (by decide +kernel)
set_option maxRecDepth 20000 in
theorem gX7_text_X7_copies : GoodIn wsX7_text (va_wsS RX7 183 yX7_copies wsX7_copies) := goodIn_app (goodIn_of _ (by decide +kernel)) ggX7_text_X7_copies
set_option maxRecDepth 20000 in
theorem ggX7_text_X7_items : GoodIn wsX7_text wsX7_items := goodIn_r _ [12, 13, 4, 14, 15, 16, 17, 7, 18, 19, 20, 3, 21, 22, 23, 24, 25, 26, 27, 28, 29, 30, 31, 32, 33, 34, 35, 36, 37, 38, 39, 40, 41, 42, 43, 1, 44, 45, 46, 47, 48, 49, 50, 51, 52, 53, 54, 55, 56, 57, 58, 59, 60, 61, 62, 63, 64, 65, 66, 67, 68, 69, 70, 71, 72, 73, 74, 75, 76, 77, 78, 79, 80, 81, 82, 83, 84, 85, 86, 87, 88, 89, 90, 91, 92, 93, 94, 95, 96, 97, 98, 99, 100, 101, 102, 103, 104, 105, 106, 107, 108, 109, 110, 111, 112, 113, 114, 115, 116, 117, 118, 119, 120, 121, 122] (by decide +kernel) (by decide +kernel)
set_option maxRecDepth 20000 in
theorem gX7_text_X7_items : GoodIn wsX7_text (wsV RX7 305 RX7 yX7_items wsX7_items) := goodIn_app (goodIn_of _ (by decide +kernel)) ggX7_text_X7_items
theorem dX7_text_0 : decode cX7_text 0 = .ok (.aload_n 0, 1) := by decide +kernel
theorem dX7_text_1 : decode cX7_text 1 = .ok (.getfield 7, 3) := by decide +kernel
theorem dX7_text_4 : decode cX7_text 4 = .ok (.aload_n 0, 1) := by decide +kernel
theorem dX7_text_5 : decode cX7_text 5 = .ok (.getfield 13, 3) := by decide +kernel
theorem dX7_text_8 : decode cX7_text 8 = .ok (.invokestatic 183, 3) := by decide +kernel
theorem dX7_text_11 : decode cX7_text 11 = .ok (.aload_n 0, 1) := by decide +kernel
theorem dX7_text_12 : decode cX7_text 12 = .ok (.invokevirtual 305, 3) := by decide +kernel
theorem dX7_text_15 : decode cX7_text 15 = .ok (.istore_n 1, 1) := by decide +kernel
theorem dX7_text_16 : decode cX7_text 16 = .ok (.aload_n 0, 1) := by decide +kernel
theorem dX7_text_17 : decode cX7_text 17 = .ok (.iconst 0, 1) := by decide +kernel
theorem dX7_text_18 : decode cX7_text 18 = .ok (.putfield 216, 3) := by decide +kernel
theorem dX7_text_21 : decode cX7_text 21 = .ok (.aload_n 0, 1) := by decide +kernel
theorem dX7_text_22 : decode cX7_text 22 = .ok (.getfield 251, 3) := by decide +kernel
theorem dX7_text_25 : decode cX7_text 25 = .ok (.ifCond .lt 21, 3) := by decide +kernel
theorem dX7_text_28 : decode cX7_text 28 = .ok (.aload_n 0, 1) := by decide +kernel
theorem dX7_text_29 : decode cX7_text 29 = .ok (.getfield 13, 3) := by decide +kernel
theorem dX7_text_32 : decode cX7_text 32 = .ok (.aload_n 0, 1) := by decide +kernel
theorem dX7_text_33 : decode cX7_text 33 = .ok (.getfield 7, 3) := by decide +kernel
theorem dX7_text_36 : decode cX7_text 36 = .ok (.invokestatic 183, 3) := by decide +kernel
theorem dX7_text_39 : decode cX7_text 39 = .ok (.iconst (-1), 1) := by decide +kernel
theorem dX7_text_40 : decode cX7_text 40 = .ok (.aload_n 0, 1) := by decide +kernel
theorem dX7_text_41 : decode cX7_text 41 = .ok (.getfield 251, 3) := by decide +kernel
theorem dX7_text_44 : decode cX7_text 44 = .ok (.isub, 1) := by decide +kernel
theorem dX7_text_45 : decode cX7_text 45 = .ok (.ireturn, 1) := by decide +kernel
theorem dX7_text_46 : decode cX7_text 46 = .ok (.iload_n 1, 1) := by decide +kernel
theorem dX7_text_47 : decode cX7_text 47 = .ok (.ireturn, 1) := by decide +kernel
set_option maxRecDepth 20000 in
theorem ggX7_hold_X7_in : GoodIn wsX7_hold wsX7_in := goodIn_r _ [7] (by decide +kernel) (by decide +kernel)
set_option maxRecDepth 20000 in
theorem gX7_hold_X7_in : GoodIn wsX7_hold (va_wsS RX7 58 yX7_in wsX7_in) := goodIn_app (goodIn_of _ (by decide +kernel)) ggX7_hold_X7_in
set_option maxRecDepth 20000 in
theorem ggX7_hold_X7_finds : GoodIn wsX7_hold wsX7_finds := goodIn_r _ [11, 12, 13, 14, 15, 16, 17, 18, 19, 20, 21, 22, 23, 24, 25, 26, 27, 28, 29, 30, 31, 32, 33, 34, 35, 36, 37, 38, 39, 40, 41] (by decide +kernel) (by decide +kernel)
set_option maxRecDepth 20000 in
theorem gX7_hold_X7_finds : GoodIn wsX7_hold (wsV RX7 106 RX7 yX7_finds wsX7_finds) := goodIn_app (goodIn_of _ (by decide +kernel)) ggX7_hold_X7_finds
theorem dX7_hold_0 : decode cX7_hold 0 = .ok (.iload_n 1, 1) := by decide +kernel
theorem dX7_hold_1 : decode cX7_hold 1 = .ok (.i2l, 1) := by decide +kernel
theorem dX7_hold_2 : decode cX7_hold 2 = .ok (.lconst 0, 1) := by decide +kernel
theorem dX7_hold_3 : decode cX7_hold 3 = .ok (.ldc2_w 308, 3) := by decide +kernel
theorem dX7_hold_6 : decode cX7_hold 6 = .ok (.invokestatic 58, 3) := by decide +kernel
theorem dX7_hold_9 : decode cX7_hold 9 = .ok (.ifCond .eq 23, 3) := by decide +kernel
theorem dX7_hold_12 : decode cX7_hold 12 = .ok (.iload_n 2, 1) := by decide +kernel
theorem dX7_hold_13 : decode cX7_hold 13 = .ok (.i2l, 1) := by decide +kernel
theorem dX7_hold_14 : decode cX7_hold 14 = .ok (.ldc2_w 310, 3) := by decide +kernel
theorem dX7_hold_17 : decode cX7_hold 17 = .ok (.aload_n 0, 1) := by decide +kernel
theorem dX7_hold_18 : decode cX7_hold 18 = .ok (.getfield 7, 3) := by decide +kernel
theorem dX7_hold_21 : decode cX7_hold 21 = .ok (.iconst 0, 1) := by decide +kernel
theorem dX7_hold_22 : decode cX7_hold 22 = .ok (.iaload, 1) := by decide +kernel
theorem dX7_hold_23 : decode cX7_hold 23 = .ok (.iconst 1, 1) := by decide +kernel
theorem dX7_hold_24 : decode cX7_hold 24 = .ok (.isub, 1) := by decide +kernel
theorem dX7_hold_25 : decode cX7_hold 25 = .ok (.i2l, 1) := by decide +kernel
theorem dX7_hold_26 : decode cX7_hold 26 = .ok (.invokestatic 58, 3) := by decide +kernel
theorem dX7_hold_29 : decode cX7_hold 29 = .ok (.ifCond .ne 9, 3) := by decide +kernel
theorem dX7_hold_32 : decode cX7_hold 32 = .ok (.aload_n 0, 1) := by decide +kernel
theorem dX7_hold_33 : decode cX7_hold 33 = .ok (.iconst 0, 1) := by decide +kernel
theorem dX7_hold_34 : decode cX7_hold 34 = .ok (.invokevirtual 106, 3) := by decide +kernel
theorem dX7_hold_37 : decode cX7_hold 37 = .ok (.ireturn, 1) := by decide +kernel
theorem dX7_hold_38 : decode cX7_hold 38 = .ok (.aload_n 0, 1) := by decide +kernel
theorem dX7_hold_39 : decode cX7_hold 39 = .ok (.getfield 7, 3) := by decide +kernel
theorem dX7_hold_42 : decode cX7_hold 42 = .ok (.bipush 30, 2) := by decide +kernel
theorem dX7_hold_44 : decode cX7_hold 44 = .ok (.iload_n 1, 1) := by decide +kernel
theorem dX7_hold_45 : decode cX7_hold 45 = .ok (.iadd, 1) := by decide +kernel
theorem dX7_hold_46 : decode cX7_hold 46 = .ok (.iload_n 2, 1) := by decide +kernel
theorem dX7_hold_47 : decode cX7_hold 47 = .ok (.iconst 1, 1) := by decide +kernel
theorem dX7_hold_48 : decode cX7_hold 48 = .ok (.iadd, 1) := by decide +kernel
theorem dX7_hold_49 : decode cX7_hold 49 = .ok (.iastore, 1) := by decide +kernel
theorem dX7_hold_50 : decode cX7_hold 50 = .ok (.iconst 1, 1) := by decide +kernel
theorem dX7_hold_51 : decode cX7_hold 51 = .ok (.ireturn, 1) := by decide +kernel
theorem dX7_above_0 : decode cX7_above 0 = .ok (.iload_n 0, 1) := by decide +kernel
theorem dX7_above_1 : decode cX7_above 1 = .ok (.iconst 3, 1) := by decide +kernel
theorem dX7_above_2 : decode cX7_above 2 = .ok (.if_icmp .ne 7, 3) := by decide +kernel
theorem dX7_above_5 : decode cX7_above 5 = .ok (.iconst 2, 1) := by decide +kernel
theorem dX7_above_6 : decode cX7_above 6 = .ok (.goto 23, 3) := by decide +kernel
theorem dX7_above_9 : decode cX7_above 9 = .ok (.iload_n 0, 1) := by decide +kernel
theorem dX7_above_10 : decode cX7_above 10 = .ok (.iconst 4, 1) := by decide +kernel
theorem dX7_above_11 : decode cX7_above 11 = .ok (.if_icmp .ne 7, 3) := by decide +kernel
theorem dX7_above_14 : decode cX7_above 14 = .ok (.iconst 1, 1) := by decide +kernel
theorem dX7_above_15 : decode cX7_above 15 = .ok (.goto 14, 3) := by decide +kernel
theorem dX7_above_18 : decode cX7_above 18 = .ok (.iload_n 0, 1) := by decide +kernel
theorem dX7_above_19 : decode cX7_above 19 = .ok (.bipush 6, 2) := by decide +kernel
theorem dX7_above_21 : decode cX7_above 21 = .ok (.if_icmp .ne 7, 3) := by decide +kernel
theorem dX7_above_24 : decode cX7_above 24 = .ok (.iconst 5, 1) := by decide +kernel
theorem dX7_above_25 : decode cX7_above 25 = .ok (.goto 4, 3) := by decide +kernel
theorem dX7_above_28 : decode cX7_above 28 = .ok (.iconst 0, 1) := by decide +kernel
theorem dX7_above_29 : decode cX7_above 29 = .ok (.ireturn, 1) := by decide +kernel
set_option maxRecDepth 20000 in
theorem ggX7_as_X7_in : GoodIn wsX7_as wsX7_in := goodIn_r _ [7] (by decide +kernel) (by decide +kernel)
set_option maxRecDepth 20000 in
theorem gX7_as_X7_in : GoodIn wsX7_as (va_wsS RX7 58 yX7_in wsX7_in) := goodIn_app (goodIn_of _ (by decide +kernel)) ggX7_as_X7_in
set_option maxRecDepth 20000 in
theorem ggX7_as_X7_finds : GoodIn wsX7_as wsX7_finds := goodIn_r _ [11, 12, 13, 21, 22, 23, 24, 25, 26, 27, 28, 29, 30, 31, 32, 33, 34, 35, 36, 37, 38, 39, 40, 41, 42, 43, 44, 45, 46, 47, 48] (by decide +kernel) (by decide +kernel)
set_option maxRecDepth 20000 in
theorem gX7_as_X7_finds : GoodIn wsX7_as (wsV RX7 106 RX7 yX7_finds wsX7_finds) := goodIn_app (goodIn_of _ (by decide +kernel)) ggX7_as_X7_finds
set_option maxRecDepth 20000 in
theorem ggX7_as_X7_kind : GoodIn wsX7_as wsX7_kind := goodIn_r _ [17, 3, 21, 22, 23, 24, 25, 26, 27, 28, 29, 30, 31, 32, 33, 34, 35, 36, 37, 38, 39, 40, 41, 42, 43, 44, 45, 46, 47, 48] (by decide +kernel) (by decide +kernel)
set_option maxRecDepth 20000 in
theorem gX7_as_X7_kind : GoodIn wsX7_as (wsV RX7 75 RX7 yX7_kind wsX7_kind) := goodIn_app (goodIn_of _ (by decide +kernel)) ggX7_as_X7_kind
set_option maxRecDepth 20000 in
theorem ggX7_as_X7_above : GoodIn wsX7_as wsX7_above := goodIn_r _ [20] (by decide +kernel) (by decide +kernel)
set_option maxRecDepth 20000 in
theorem gX7_as_X7_above : GoodIn wsX7_as (va_wsS RX7 312 yX7_above wsX7_above) := goodIn_app (goodIn_of _ (by decide +kernel)) ggX7_as_X7_above
theorem dX7_as_0 : decode cX7_as 0 = .ok (.iload_n 1, 1) := by decide +kernel
theorem dX7_as_1 : decode cX7_as 1 = .ok (.i2l, 1) := by decide +kernel
theorem dX7_as_2 : decode cX7_as 2 = .ok (.lconst 0, 1) := by decide +kernel
theorem dX7_as_3 : decode cX7_as 3 = .ok (.ldc2_w 308, 3) := by decide +kernel
theorem dX7_as_6 : decode cX7_as 6 = .ok (.invokestatic 58, 3) := by decide +kernel
theorem dX7_as_9 : decode cX7_as 9 = .ok (.ifCond .eq 15, 3) := by decide +kernel
theorem dX7_as_12 : decode cX7_as 12 = .ok (.iload_n 2, 1) := by decide +kernel
theorem dX7_as_13 : decode cX7_as 13 = .ok (.i2l, 1) := by decide +kernel
theorem dX7_as_14 : decode cX7_as 14 = .ok (.lconst 0, 1) := by decide +kernel
theorem dX7_as_15 : decode cX7_as 15 = .ok (.ldc2_w 100, 3) := by decide +kernel
theorem dX7_as_18 : decode cX7_as 18 = .ok (.invokestatic 58, 3) := by decide +kernel
theorem dX7_as_21 : decode cX7_as 21 = .ok (.ifCond .ne 9, 3) := by decide +kernel
theorem dX7_as_24 : decode cX7_as 24 = .ok (.aload_n 0, 1) := by decide +kernel
theorem dX7_as_25 : decode cX7_as 25 = .ok (.iconst 0, 1) := by decide +kernel
theorem dX7_as_26 : decode cX7_as 26 = .ok (.invokevirtual 106, 3) := by decide +kernel
theorem dX7_as_29 : decode cX7_as 29 = .ok (.ireturn, 1) := by decide +kernel
theorem dX7_as_30 : decode cX7_as 30 = .ok (.aload_n 0, 1) := by decide +kernel
theorem dX7_as_31 : decode cX7_as 31 = .ok (.getfield 7, 3) := by decide +kernel
theorem dX7_as_34 : decode cX7_as 34 = .ok (.bipush 30, 2) := by decide +kernel
theorem dX7_as_36 : decode cX7_as 36 = .ok (.iload_n 1, 1) := by decide +kernel
theorem dX7_as_37 : decode cX7_as 37 = .ok (.iadd, 1) := by decide +kernel
theorem dX7_as_38 : decode cX7_as 38 = .ok (.iaload, 1) := by decide +kernel
theorem dX7_as_39 : decode cX7_as 39 = .ok (.ifCond .ne 9, 3) := by decide +kernel
theorem dX7_as_42 : decode cX7_as 42 = .ok (.aload_n 0, 1) := by decide +kernel
theorem dX7_as_43 : decode cX7_as 43 = .ok (.iconst 5, 1) := by decide +kernel
theorem dX7_as_44 : decode cX7_as 44 = .ok (.invokevirtual 106, 3) := by decide +kernel
theorem dX7_as_47 : decode cX7_as 47 = .ok (.ireturn, 1) := by decide +kernel
theorem dX7_as_48 : decode cX7_as 48 = .ok (.aload_n 0, 1) := by decide +kernel
theorem dX7_as_49 : decode cX7_as 49 = .ok (.getfield 7, 3) := by decide +kernel
theorem dX7_as_52 : decode cX7_as 52 = .ok (.bipush 30, 2) := by decide +kernel
theorem dX7_as_54 : decode cX7_as 54 = .ok (.iload_n 1, 1) := by decide +kernel
theorem dX7_as_55 : decode cX7_as 55 = .ok (.iadd, 1) := by decide +kernel
theorem dX7_as_56 : decode cX7_as 56 = .ok (.iaload, 1) := by decide +kernel
theorem dX7_as_57 : decode cX7_as 57 = .ok (.iconst 1, 1) := by decide +kernel
theorem dX7_as_58 : decode cX7_as 58 = .ok (.isub, 1) := by decide +kernel
theorem dX7_as_59 : decode cX7_as 59 = .ok (.istore_n 3, 1) := by decide +kernel
theorem dX7_as_60 : decode cX7_as 60 = .ok (.iload_n 2, 1) := by decide +kernel
theorem dX7_as_61 : decode cX7_as 61 = .ok (.ifCond .eq 24, 3) := by decide +kernel
theorem dX7_as_64 : decode cX7_as 64 = .ok (.iload_n 2, 1) := by decide +kernel
theorem dX7_as_65 : decode cX7_as 65 = .ok (.aload_n 0, 1) := by decide +kernel
theorem dX7_as_66 : decode cX7_as 66 = .ok (.iload_n 3, 1) := by decide +kernel
theorem dX7_as_67 : decode cX7_as 67 = .ok (.invokevirtual 75, 3) := by decide +kernel
theorem dX7_as_70 : decode cX7_as 70 = .ok (.if_icmp .eq 15, 3) := by decide +kernel
theorem dX7_as_73 : decode cX7_as 73 = .ok (.iload_n 2, 1) := by decide +kernel
theorem dX7_as_74 : decode cX7_as 74 = .ok (.aload_n 0, 1) := by decide +kernel
theorem dX7_as_75 : decode cX7_as 75 = .ok (.iload_n 3, 1) := by decide +kernel
theorem dX7_as_76 : decode cX7_as 76 = .ok (.invokevirtual 75, 3) := by decide +kernel
theorem dX7_as_79 : decode cX7_as 79 = .ok (.invokestatic 312, 3) := by decide +kernel
theorem dX7_as_82 : decode cX7_as 82 = .ok (.if_icmp .ne 7, 3) := by decide +kernel
theorem dX7_as_85 : decode cX7_as 85 = .ok (.iload_n 3, 1) := by decide +kernel
theorem dX7_as_86 : decode cX7_as 86 = .ok (.goto 8, 3) := by decide +kernel
theorem dX7_as_89 : decode cX7_as 89 = .ok (.aload_n 0, 1) := by decide +kernel
theorem dX7_as_90 : decode cX7_as 90 = .ok (.iconst 2, 1) := by decide +kernel
theorem dX7_as_91 : decode cX7_as 91 = .ok (.invokevirtual 106, 3) := by decide +kernel
theorem dX7_as_94 : decode cX7_as 94 = .ok (.ireturn, 1) := by decide +kernel
set_option maxRecDepth 20000 in
theorem ggX7_isSheet_X7_in : GoodIn wsX7_isSheet wsX7_in := goodIn_r _ [5] (by decide +kernel) (by decide +kernel)
set_option maxRecDepth 20000 in
theorem gX7_isSheet_X7_in : GoodIn wsX7_isSheet (va_wsS RX7 58 yX7_in wsX7_in) := goodIn_app (goodIn_of _ (by decide +kernel)) ggX7_isSheet_X7_in
theorem dX7_isSheet_0 : decode cX7_isSheet 0 = .ok (.iload_n 0, 1) := by decide +kernel
theorem dX7_isSheet_1 : decode cX7_isSheet 1 = .ok (.i2l, 1) := by decide +kernel
theorem dX7_isSheet_2 : decode cX7_isSheet 2 = .ok (.lconst 0, 1) := by decide +kernel
theorem dX7_isSheet_3 : decode cX7_isSheet 3 = .ok (.ldc2_w 315, 3) := by decide +kernel
theorem dX7_isSheet_6 : decode cX7_isSheet 6 = .ok (.invokestatic 58, 3) := by decide +kernel
theorem dX7_isSheet_9 : decode cX7_isSheet 9 = .ok (.ireturn, 1) := by decide +kernel
set_option maxRecDepth 20000 in
theorem ggX7_sheet_X7_isSheet : GoodIn wsX7_sheet wsX7_isSheet := goodIn_r _ [7, 8, 9, 10, 6, 11] (by decide +kernel) (by decide +kernel)
set_option maxRecDepth 20000 in
theorem gX7_sheet_X7_isSheet : GoodIn wsX7_sheet (va_wsS RX7 317 yX7_isSheet wsX7_isSheet) := goodIn_app (goodIn_of _ (by decide +kernel)) ggX7_sheet_X7_isSheet
set_option maxRecDepth 20000 in
theorem ggX7_sheet_X7_finds : GoodIn wsX7_sheet wsX7_finds := goodIn_r _ [15, 16, 17, 18, 19, 20, 21, 22, 23, 24, 25, 26, 27, 28, 29, 30, 31, 32, 33, 34, 35, 36, 37, 38, 39, 40, 41, 42, 43, 44, 45] (by decide +kernel) (by decide +kernel)
set_option maxRecDepth 20000 in
theorem gX7_sheet_X7_finds : GoodIn wsX7_sheet (wsV RX7 106 RX7 yX7_finds wsX7_finds) := goodIn_app (goodIn_of _ (by decide +kernel)) ggX7_sheet_X7_finds
theorem dX7_sheet_0 : decode cX7_sheet 0 = .ok (.iload_n 1, 1) := by decide +kernel
theorem dX7_sheet_1 : decode cX7_sheet 1 = .ok (.invokestatic 317, 3) := by decide +kernel
theorem dX7_sheet_4 : decode cX7_sheet 4 = .ok (.ifCond .eq 25, 3) := by decide +kernel
theorem dX7_sheet_7 : decode cX7_sheet 7 = .ok (.iload_n 2, 1) := by decide +kernel
theorem dX7_sheet_8 : decode cX7_sheet 8 = .ok (.ifCond .eq 27, 3) := by decide +kernel
theorem dX7_sheet_11 : decode cX7_sheet 11 = .ok (.iload_n 2, 1) := by decide +kernel
theorem dX7_sheet_12 : decode cX7_sheet 12 = .ok (.bipush 8, 2) := by decide +kernel
theorem dX7_sheet_14 : decode cX7_sheet 14 = .ok (.if_icmp .eq 21, 3) := by decide +kernel
theorem dX7_sheet_17 : decode cX7_sheet 17 = .ok (.iload_n 2, 1) := by decide +kernel
theorem dX7_sheet_18 : decode cX7_sheet 18 = .ok (.bipush 16, 2) := by decide +kernel
theorem dX7_sheet_20 : decode cX7_sheet 20 = .ok (.if_icmp .eq 15, 3) := by decide +kernel
theorem dX7_sheet_23 : decode cX7_sheet 23 = .ok (.iload_n 2, 1) := by decide +kernel
theorem dX7_sheet_24 : decode cX7_sheet 24 = .ok (.bipush 32, 2) := by decide +kernel
theorem dX7_sheet_26 : decode cX7_sheet 26 = .ok (.if_icmp .eq 9, 3) := by decide +kernel
theorem dX7_sheet_29 : decode cX7_sheet 29 = .ok (.aload_n 0, 1) := by decide +kernel
theorem dX7_sheet_30 : decode cX7_sheet 30 = .ok (.iconst 0, 1) := by decide +kernel
theorem dX7_sheet_31 : decode cX7_sheet 31 = .ok (.invokevirtual 106, 3) := by decide +kernel
theorem dX7_sheet_34 : decode cX7_sheet 34 = .ok (.ireturn, 1) := by decide +kernel
theorem dX7_sheet_35 : decode cX7_sheet 35 = .ok (.iload_n 3, 1) := by decide +kernel
theorem dX7_sheet_36 : decode cX7_sheet 36 = .ok (.ifCond .ge 10, 3) := by decide +kernel
theorem dX7_sheet_39 : decode cX7_sheet 39 = .ok (.aload_n 0, 1) := by decide +kernel
theorem dX7_sheet_40 : decode cX7_sheet 40 = .ok (.bipush 6, 2) := by decide +kernel
theorem dX7_sheet_42 : decode cX7_sheet 42 = .ok (.invokevirtual 106, 3) := by decide +kernel
theorem dX7_sheet_45 : decode cX7_sheet 45 = .ok (.ireturn, 1) := by decide +kernel
theorem dX7_sheet_46 : decode cX7_sheet 46 = .ok (.iload_n 3, 1) := by decide +kernel
theorem dX7_sheet_47 : decode cX7_sheet 47 = .ok (.bipush 40, 2) := by decide +kernel
theorem dX7_sheet_49 : decode cX7_sheet 49 = .ok (.if_icmp .le 9, 3) := by decide +kernel
theorem dX7_sheet_52 : decode cX7_sheet 52 = .ok (.aload_n 0, 1) := by decide +kernel
theorem dX7_sheet_53 : decode cX7_sheet 53 = .ok (.iconst 0, 1) := by decide +kernel
theorem dX7_sheet_54 : decode cX7_sheet 54 = .ok (.invokevirtual 106, 3) := by decide +kernel
theorem dX7_sheet_57 : decode cX7_sheet 57 = .ok (.ireturn, 1) := by decide +kernel
theorem dX7_sheet_58 : decode cX7_sheet 58 = .ok (.aload_n 0, 1) := by decide +kernel
theorem dX7_sheet_59 : decode cX7_sheet 59 = .ok (.getfield 45, 3) := by decide +kernel
theorem dX7_sheet_62 : decode cX7_sheet 62 = .ok (.iload_n 1, 1) := by decide +kernel
theorem dX7_sheet_63 : decode cX7_sheet 63 = .ok (.iload_n 2, 1) := by decide +kernel
theorem dX7_sheet_64 : decode cX7_sheet 64 = .ok (.iastore, 1) := by decide +kernel
theorem dX7_sheet_65 : decode cX7_sheet 65 = .ok (.aload_n 0, 1) := by decide +kernel
theorem dX7_sheet_66 : decode cX7_sheet 66 = .ok (.getfield 48, 3) := by decide +kernel
theorem dX7_sheet_69 : decode cX7_sheet 69 = .ok (.iload_n 1, 1) := by decide +kernel
theorem dX7_sheet_70 : decode cX7_sheet 70 = .ok (.iload_n 2, 1) := by decide +kernel
theorem dX7_sheet_71 : decode cX7_sheet 71 = .ok (.ifCond .ne 7, 3) := by decide +kernel
theorem dX7_sheet_74 : decode cX7_sheet 74 = .ok (.iconst 0, 1) := by decide +kernel
theorem dX7_sheet_75 : decode cX7_sheet 75 = .ok (.goto 4, 3) := by decide +kernel
theorem dX7_sheet_78 : decode cX7_sheet 78 = .ok (.iload_n 3, 1) := by decide +kernel
theorem dX7_sheet_79 : decode cX7_sheet 79 = .ok (.iastore, 1) := by decide +kernel
theorem dX7_sheet_80 : decode cX7_sheet 80 = .ok (.iconst 0, 1) := by decide +kernel
theorem dX7_sheet_81 : decode cX7_sheet 81 = .ok (.istore 4, 2) := by decide +kernel
theorem dX7_sheet_83 : decode cX7_sheet 83 = .ok (.iload 4, 2) := by decide +kernel
theorem dX7_sheet_85 : decode cX7_sheet 85 = .ok (.bipush 40, 2) := by decide +kernel
theorem dX7_sheet_87 : decode cX7_sheet 87 = .ok (.if_icmp .ge 22, 3) := by decide +kernel
theorem dX7_sheet_90 : decode cX7_sheet 90 = .ok (.aload_n 0, 1) := by decide +kernel
theorem dX7_sheet_91 : decode cX7_sheet 91 = .ok (.getfield 51, 3) := by decide +kernel
theorem dX7_sheet_94 : decode cX7_sheet 94 = .ok (.bipush 40, 2) := by decide +kernel
theorem dX7_sheet_96 : decode cX7_sheet 96 = .ok (.iload_n 1, 1) := by decide +kernel
theorem dX7_sheet_97 : decode cX7_sheet 97 = .ok (.imul, 1) := by decide +kernel
theorem dX7_sheet_98 : decode cX7_sheet 98 = .ok (.iload 4, 2) := by decide +kernel
theorem dX7_sheet_100 : decode cX7_sheet 100 = .ok (.iadd, 1) := by decide +kernel
theorem dX7_sheet_101 : decode cX7_sheet 101 = .ok (.iconst 0, 1) := by decide +kernel
theorem dX7_sheet_102 : decode cX7_sheet 102 = .ok (.iastore, 1) := by decide +kernel
theorem dX7_sheet_103 : decode cX7_sheet 103 = .ok (.iinc 4 1, 3) := by decide +kernel
theorem dX7_sheet_106 : decode cX7_sheet 106 = .ok (.goto (-23), 3) := by decide +kernel
theorem dX7_sheet_109 : decode cX7_sheet 109 = .ok (.aload_n 0, 1) := by decide +kernel
theorem dX7_sheet_110 : decode cX7_sheet 110 = .ok (.getfield 48, 3) := by decide +kernel
theorem dX7_sheet_113 : decode cX7_sheet 113 = .ok (.iload_n 1, 1) := by decide +kernel
theorem dX7_sheet_114 : decode cX7_sheet 114 = .ok (.iaload, 1) := by decide +kernel
theorem dX7_sheet_115 : decode cX7_sheet 115 = .ok (.ireturn, 1) := by decide +kernel
set_option maxRecDepth 20000 in
theorem ggX7_whyNone_X7_isSheet : GoodIn wsX7_whyNone wsX7_isSheet := goodIn_r _ [5, 6, 7, 8, 4, 9] (by decide +kernel) (by decide +kernel)
set_option maxRecDepth 20000 in
theorem gX7_whyNone_X7_isSheet : GoodIn wsX7_whyNone (va_wsS RX7 317 yX7_isSheet wsX7_isSheet) := goodIn_app (goodIn_of _ (by decide +kernel)) ggX7_whyNone_X7_isSheet
theorem dX7_whyNone_0 : decode cX7_whyNone 0 = .ok (.iload_n 1, 1) := by decide +kernel
theorem dX7_whyNone_1 : decode cX7_whyNone 1 = .ok (.invokestatic 317, 3) := by decide +kernel
theorem dX7_whyNone_4 : decode cX7_whyNone 4 = .ok (.ifCond .ne 7, 3) := by decide +kernel
theorem dX7_whyNone_7 : decode cX7_whyNone 7 = .ok (.iconst 0, 1) := by decide +kernel
theorem dX7_whyNone_8 : decode cX7_whyNone 8 = .ok (.goto 17, 3) := by decide +kernel
theorem dX7_whyNone_11 : decode cX7_whyNone 11 = .ok (.aload_n 0, 1) := by decide +kernel
theorem dX7_whyNone_12 : decode cX7_whyNone 12 = .ok (.getfield 45, 3) := by decide +kernel
theorem dX7_whyNone_15 : decode cX7_whyNone 15 = .ok (.iload_n 1, 1) := by decide +kernel
theorem dX7_whyNone_16 : decode cX7_whyNone 16 = .ok (.iaload, 1) := by decide +kernel
theorem dX7_whyNone_17 : decode cX7_whyNone 17 = .ok (.ifCond .ne 7, 3) := by decide +kernel
theorem dX7_whyNone_20 : decode cX7_whyNone 20 = .ok (.iconst 5, 1) := by decide +kernel
theorem dX7_whyNone_21 : decode cX7_whyNone 21 = .ok (.goto 4, 3) := by decide +kernel
theorem dX7_whyNone_24 : decode cX7_whyNone 24 = .ok (.iconst (-1), 1) := by decide +kernel
theorem dX7_whyNone_25 : decode cX7_whyNone 25 = .ok (.ireturn, 1) := by decide +kernel
set_option maxRecDepth 20000 in
theorem ggX7_write_X7_whyNone : GoodIn wsX7_write wsX7_whyNone := goodIn_r _ [8, 3, 9, 10, 7, 11, 12, 13, 14, 15, 22, 23, 24, 25, 26, 27, 28, 29, 30, 31, 32, 33, 34, 35, 36, 37, 38, 39, 40, 41, 42, 43, 44, 45, 46, 47, 48, 49] (by decide +kernel) (by decide +kernel)
set_option maxRecDepth 20000 in
theorem gX7_write_X7_whyNone : GoodIn wsX7_write (wsV RX7 320 RX7 yX7_whyNone wsX7_whyNone) := goodIn_app (goodIn_of _ (by decide +kernel)) ggX7_write_X7_whyNone
set_option maxRecDepth 20000 in
theorem ggX7_write_X7_in : GoodIn wsX7_write wsX7_in := goodIn_r _ [15] (by decide +kernel) (by decide +kernel)
set_option maxRecDepth 20000 in
theorem gX7_write_X7_in : GoodIn wsX7_write (va_wsS RX7 58 yX7_in wsX7_in) := goodIn_app (goodIn_of _ (by decide +kernel)) ggX7_write_X7_in
set_option maxRecDepth 20000 in
theorem ggX7_write_X7_finds : GoodIn wsX7_write wsX7_finds := goodIn_r _ [19, 20, 21, 22, 23, 24, 25, 26, 27, 28, 29, 30, 31, 32, 33, 34, 35, 36, 37, 38, 39, 40, 41, 42, 43, 44, 45, 46, 47, 48, 49] (by decide +kernel) (by decide +kernel)
set_option maxRecDepth 20000 in
theorem gX7_write_X7_finds : GoodIn wsX7_write (wsV RX7 106 RX7 yX7_finds wsX7_finds) := goodIn_app (goodIn_of _ (by decide +kernel)) ggX7_write_X7_finds
theorem dX7_write_0 : decode cX7_write 0 = .ok (.aload_n 0, 1) := by decide +kernel
theorem dX7_write_1 : decode cX7_write 1 = .ok (.iload_n 1, 1) := by decide +kernel
theorem dX7_write_2 : decode cX7_write 2 = .ok (.invokevirtual 320, 3) := by decide +kernel
theorem dX7_write_5 : decode cX7_write 5 = .ok (.istore 4, 2) := by decide +kernel
theorem dX7_write_7 : decode cX7_write 7 = .ok (.iload 4, 2) := by decide +kernel
theorem dX7_write_9 : decode cX7_write 9 = .ok (.ifCond .ge 25, 3) := by decide +kernel
theorem dX7_write_12 : decode cX7_write 12 = .ok (.iload_n 2, 1) := by decide +kernel
theorem dX7_write_13 : decode cX7_write 13 = .ok (.i2l, 1) := by decide +kernel
theorem dX7_write_14 : decode cX7_write 14 = .ok (.lconst 0, 1) := by decide +kernel
theorem dX7_write_15 : decode cX7_write 15 = .ok (.aload_n 0, 1) := by decide +kernel
theorem dX7_write_16 : decode cX7_write 16 = .ok (.getfield 48, 3) := by decide +kernel
theorem dX7_write_19 : decode cX7_write 19 = .ok (.iload_n 1, 1) := by decide +kernel
theorem dX7_write_20 : decode cX7_write 20 = .ok (.iaload, 1) := by decide +kernel
theorem dX7_write_21 : decode cX7_write 21 = .ok (.iconst 1, 1) := by decide +kernel
theorem dX7_write_22 : decode cX7_write 22 = .ok (.isub, 1) := by decide +kernel
theorem dX7_write_23 : decode cX7_write 23 = .ok (.i2l, 1) := by decide +kernel
theorem dX7_write_24 : decode cX7_write 24 = .ok (.invokestatic 58, 3) := by decide +kernel
theorem dX7_write_27 : decode cX7_write 27 = .ok (.ifCond .ne 7, 3) := by decide +kernel
theorem dX7_write_30 : decode cX7_write 30 = .ok (.iconst 0, 1) := by decide +kernel
theorem dX7_write_31 : decode cX7_write 31 = .ok (.goto 5, 3) := by decide +kernel
theorem dX7_write_34 : decode cX7_write 34 = .ok (.iload 4, 2) := by decide +kernel
theorem dX7_write_36 : decode cX7_write 36 = .ok (.istore 4, 2) := by decide +kernel
theorem dX7_write_38 : decode cX7_write 38 = .ok (.iload 4, 2) := by decide +kernel
theorem dX7_write_40 : decode cX7_write 40 = .ok (.ifCond .lt 10, 3) := by decide +kernel
theorem dX7_write_43 : decode cX7_write 43 = .ok (.aload_n 0, 1) := by decide +kernel
theorem dX7_write_44 : decode cX7_write 44 = .ok (.iload 4, 2) := by decide +kernel
theorem dX7_write_46 : decode cX7_write 46 = .ok (.invokevirtual 106, 3) := by decide +kernel
theorem dX7_write_49 : decode cX7_write 49 = .ok (.ireturn, 1) := by decide +kernel
theorem dX7_write_50 : decode cX7_write 50 = .ok (.aload_n 0, 1) := by decide +kernel
theorem dX7_write_51 : decode cX7_write 51 = .ok (.getfield 51, 3) := by decide +kernel
theorem dX7_write_54 : decode cX7_write 54 = .ok (.bipush 40, 2) := by decide +kernel
theorem dX7_write_56 : decode cX7_write 56 = .ok (.iload_n 1, 1) := by decide +kernel
theorem dX7_write_57 : decode cX7_write 57 = .ok (.imul, 1) := by decide +kernel
theorem dX7_write_58 : decode cX7_write 58 = .ok (.iload_n 2, 1) := by decide +kernel
theorem dX7_write_59 : decode cX7_write 59 = .ok (.iadd, 1) := by decide +kernel
theorem dX7_write_60 : decode cX7_write 60 = .ok (.aload_n 0, 1) := by decide +kernel
theorem dX7_write_61 : decode cX7_write 61 = .ok (.getfield 45, 3) := by decide +kernel
theorem dX7_write_64 : decode cX7_write 64 = .ok (.iload_n 1, 1) := by decide +kernel
theorem dX7_write_65 : decode cX7_write 65 = .ok (.iaload, 1) := by decide +kernel
theorem dX7_write_66 : decode cX7_write 66 = .ok (.bipush 8, 2) := by decide +kernel
theorem dX7_write_68 : decode cX7_write 68 = .ok (.if_icmp .ne 8, 3) := by decide +kernel
theorem dX7_write_71 : decode cX7_write 71 = .ok (.iload_n 3, 1) := by decide +kernel
theorem dX7_write_72 : decode cX7_write 72 = .ok (.i2b, 1) := by decide +kernel
theorem dX7_write_73 : decode cX7_write 73 = .ok (.goto 20, 3) := by decide +kernel
theorem dX7_write_76 : decode cX7_write 76 = .ok (.aload_n 0, 1) := by decide +kernel
theorem dX7_write_77 : decode cX7_write 77 = .ok (.getfield 45, 3) := by decide +kernel
theorem dX7_write_80 : decode cX7_write 80 = .ok (.iload_n 1, 1) := by decide +kernel
theorem dX7_write_81 : decode cX7_write 81 = .ok (.iaload, 1) := by decide +kernel
theorem dX7_write_82 : decode cX7_write 82 = .ok (.bipush 16, 2) := by decide +kernel
theorem dX7_write_84 : decode cX7_write 84 = .ok (.if_icmp .ne 8, 3) := by decide +kernel
theorem dX7_write_87 : decode cX7_write 87 = .ok (.iload_n 3, 1) := by decide +kernel
theorem dX7_write_88 : decode cX7_write 88 = .ok (.i2s, 1) := by decide +kernel
theorem dX7_write_89 : decode cX7_write 89 = .ok (.goto 4, 3) := by decide +kernel
theorem dX7_write_92 : decode cX7_write 92 = .ok (.iload_n 3, 1) := by decide +kernel
theorem dX7_write_93 : decode cX7_write 93 = .ok (.iastore, 1) := by decide +kernel
theorem dX7_write_94 : decode cX7_write 94 = .ok (.iconst 1, 1) := by decide +kernel
theorem dX7_write_95 : decode cX7_write 95 = .ok (.ireturn, 1) := by decide +kernel
set_option maxRecDepth 20000 in
theorem ggX7_copy_X7_isSheet : GoodIn wsX7_copy wsX7_isSheet := goodIn_r _ [8, 9, 10, 11, 7, 12] (by decide +kernel) (by decide +kernel)
set_option maxRecDepth 20000 in
theorem gX7_copy_X7_isSheet : GoodIn wsX7_copy (va_wsS RX7 317 yX7_isSheet wsX7_isSheet) := goodIn_app (goodIn_of _ (by decide +kernel)) ggX7_copy_X7_isSheet
set_option maxRecDepth 20000 in
theorem ggX7_copy_X7_finds : GoodIn wsX7_copy wsX7_finds := goodIn_r _ [16, 17, 18, 19, 20, 21, 22, 23, 24, 25, 26, 27, 28, 29, 30, 31, 32, 33, 34, 35, 36, 37, 38, 39, 40, 41, 42, 43, 44, 45, 46] (by decide +kernel) (by decide +kernel)
set_option maxRecDepth 20000 in
theorem gX7_copy_X7_finds : GoodIn wsX7_copy (wsV RX7 106 RX7 yX7_finds wsX7_finds) := goodIn_app (goodIn_of _ (by decide +kernel)) ggX7_copy_X7_finds
theorem dX7_copy_0 : decode cX7_copy 0 = .ok (.iload_n 1, 1) := by decide +kernel
theorem dX7_copy_1 : decode cX7_copy 1 = .ok (.invokestatic 317, 3) := by decide +kernel
theorem dX7_copy_4 : decode cX7_copy 4 = .ok (.ifCond .eq 10, 3) := by decide +kernel
theorem dX7_copy_7 : decode cX7_copy 7 = .ok (.iload_n 3, 1) := by decide +kernel
theorem dX7_copy_8 : decode cX7_copy 8 = .ok (.invokestatic 317, 3) := by decide +kernel
theorem dX7_copy_11 : decode cX7_copy 11 = .ok (.ifCond .ne 9, 3) := by decide +kernel
theorem dX7_copy_14 : decode cX7_copy 14 = .ok (.aload_n 0, 1) := by decide +kernel
theorem dX7_copy_15 : decode cX7_copy 15 = .ok (.iconst 0, 1) := by decide +kernel
theorem dX7_copy_16 : decode cX7_copy 16 = .ok (.invokevirtual 106, 3) := by decide +kernel
theorem dX7_copy_19 : decode cX7_copy 19 = .ok (.ireturn, 1) := by decide +kernel
theorem dX7_copy_20 : decode cX7_copy 20 = .ok (.aload_n 0, 1) := by decide +kernel
theorem dX7_copy_21 : decode cX7_copy 21 = .ok (.getfield 45, 3) := by decide +kernel
theorem dX7_copy_24 : decode cX7_copy 24 = .ok (.iload_n 1, 1) := by decide +kernel
theorem dX7_copy_25 : decode cX7_copy 25 = .ok (.iaload, 1) := by decide +kernel
theorem dX7_copy_26 : decode cX7_copy 26 = .ok (.ifCond .eq 12, 3) := by decide +kernel
theorem dX7_copy_29 : decode cX7_copy 29 = .ok (.aload_n 0, 1) := by decide +kernel
theorem dX7_copy_30 : decode cX7_copy 30 = .ok (.getfield 45, 3) := by decide +kernel
theorem dX7_copy_33 : decode cX7_copy 33 = .ok (.iload_n 3, 1) := by decide +kernel
theorem dX7_copy_34 : decode cX7_copy 34 = .ok (.iaload, 1) := by decide +kernel
theorem dX7_copy_35 : decode cX7_copy 35 = .ok (.ifCond .ne 9, 3) := by decide +kernel
theorem dX7_copy_38 : decode cX7_copy 38 = .ok (.aload_n 0, 1) := by decide +kernel
theorem dX7_copy_39 : decode cX7_copy 39 = .ok (.iconst 5, 1) := by decide +kernel
theorem dX7_copy_40 : decode cX7_copy 40 = .ok (.invokevirtual 106, 3) := by decide +kernel
theorem dX7_copy_43 : decode cX7_copy 43 = .ok (.ireturn, 1) := by decide +kernel
theorem dX7_copy_44 : decode cX7_copy 44 = .ok (.aload_n 0, 1) := by decide +kernel
theorem dX7_copy_45 : decode cX7_copy 45 = .ok (.getfield 45, 3) := by decide +kernel
theorem dX7_copy_48 : decode cX7_copy 48 = .ok (.iload_n 1, 1) := by decide +kernel
theorem dX7_copy_49 : decode cX7_copy 49 = .ok (.iaload, 1) := by decide +kernel
theorem dX7_copy_50 : decode cX7_copy 50 = .ok (.aload_n 0, 1) := by decide +kernel
theorem dX7_copy_51 : decode cX7_copy 51 = .ok (.getfield 45, 3) := by decide +kernel
theorem dX7_copy_54 : decode cX7_copy 54 = .ok (.iload_n 3, 1) := by decide +kernel
theorem dX7_copy_55 : decode cX7_copy 55 = .ok (.iaload, 1) := by decide +kernel
theorem dX7_copy_56 : decode cX7_copy 56 = .ok (.if_icmp .eq 9, 3) := by decide +kernel
theorem dX7_copy_59 : decode cX7_copy 59 = .ok (.aload_n 0, 1) := by decide +kernel
theorem dX7_copy_60 : decode cX7_copy 60 = .ok (.iconst 2, 1) := by decide +kernel
theorem dX7_copy_61 : decode cX7_copy 61 = .ok (.invokevirtual 106, 3) := by decide +kernel
theorem dX7_copy_64 : decode cX7_copy 64 = .ok (.ireturn, 1) := by decide +kernel
theorem dX7_copy_65 : decode cX7_copy 65 = .ok (.iload_n 2, 1) := by decide +kernel
theorem dX7_copy_66 : decode cX7_copy 66 = .ok (.ifCond .lt 48, 3) := by decide +kernel
theorem dX7_copy_69 : decode cX7_copy 69 = .ok (.iload 4, 2) := by decide +kernel
theorem dX7_copy_71 : decode cX7_copy 71 = .ok (.ifCond .lt 43, 3) := by decide +kernel
theorem dX7_copy_74 : decode cX7_copy 74 = .ok (.iload 5, 2) := by decide +kernel
theorem dX7_copy_76 : decode cX7_copy 76 = .ok (.ifCond .lt 38, 3) := by decide +kernel
theorem dX7_copy_79 : decode cX7_copy 79 = .ok (.iload_n 2, 1) := by decide +kernel
theorem dX7_copy_80 : decode cX7_copy 80 = .ok (.i2l, 1) := by decide +kernel
theorem dX7_copy_81 : decode cX7_copy 81 = .ok (.iload 5, 2) := by decide +kernel
theorem dX7_copy_83 : decode cX7_copy 83 = .ok (.i2l, 1) := by decide +kernel
theorem dX7_copy_84 : decode cX7_copy 84 = .ok (.ladd, 1) := by decide +kernel
theorem dX7_copy_85 : decode cX7_copy 85 = .ok (.aload_n 0, 1) := by decide +kernel
theorem dX7_copy_86 : decode cX7_copy 86 = .ok (.getfield 48, 3) := by decide +kernel
theorem dX7_copy_89 : decode cX7_copy 89 = .ok (.iload_n 1, 1) := by decide +kernel
theorem dX7_copy_90 : decode cX7_copy 90 = .ok (.iaload, 1) := by decide +kernel
theorem dX7_copy_91 : decode cX7_copy 91 = .ok (.i2l, 1) := by decide +kernel
theorem dX7_copy_92 : decode cX7_copy 92 = .ok (.lcmp, 1) := by decide +kernel
theorem dX7_copy_93 : decode cX7_copy 93 = .ok (.ifCond .gt 21, 3) := by decide +kernel
theorem dX7_copy_96 : decode cX7_copy 96 = .ok (.iload 4, 2) := by decide +kernel
theorem dX7_copy_98 : decode cX7_copy 98 = .ok (.i2l, 1) := by decide +kernel
theorem dX7_copy_99 : decode cX7_copy 99 = .ok (.iload 5, 2) := by decide +kernel
theorem dX7_copy_101 : decode cX7_copy 101 = .ok (.i2l, 1) := by decide +kernel
theorem dX7_copy_102 : decode cX7_copy 102 = .ok (.ladd, 1) := by decide +kernel
theorem dX7_copy_103 : decode cX7_copy 103 = .ok (.aload_n 0, 1) := by decide +kernel
theorem dX7_copy_104 : decode cX7_copy 104 = .ok (.getfield 48, 3) := by decide +kernel
theorem dX7_copy_107 : decode cX7_copy 107 = .ok (.iload_n 3, 1) := by decide +kernel
theorem dX7_copy_108 : decode cX7_copy 108 = .ok (.iaload, 1) := by decide +kernel
theorem dX7_copy_109 : decode cX7_copy 109 = .ok (.i2l, 1) := by decide +kernel
theorem dX7_copy_110 : decode cX7_copy 110 = .ok (.lcmp, 1) := by decide +kernel
theorem dX7_copy_111 : decode cX7_copy 111 = .ok (.ifCond .le 9, 3) := by decide +kernel
theorem dX7_copy_114 : decode cX7_copy 114 = .ok (.aload_n 0, 1) := by decide +kernel
theorem dX7_copy_115 : decode cX7_copy 115 = .ok (.iconst 0, 1) := by decide +kernel
theorem dX7_copy_116 : decode cX7_copy 116 = .ok (.invokevirtual 106, 3) := by decide +kernel
theorem dX7_copy_119 : decode cX7_copy 119 = .ok (.ireturn, 1) := by decide +kernel
theorem dX7_copy_120 : decode cX7_copy 120 = .ok (.iconst 0, 1) := by decide +kernel
theorem dX7_copy_121 : decode cX7_copy 121 = .ok (.istore 6, 2) := by decide +kernel
theorem dX7_copy_123 : decode cX7_copy 123 = .ok (.iload 6, 2) := by decide +kernel
theorem dX7_copy_125 : decode cX7_copy 125 = .ok (.iload 5, 2) := by decide +kernel
theorem dX7_copy_127 : decode cX7_copy 127 = .ok (.if_icmp .ge 30, 3) := by decide +kernel
theorem dX7_copy_130 : decode cX7_copy 130 = .ok (.aload_n 0, 1) := by decide +kernel
theorem dX7_copy_131 : decode cX7_copy 131 = .ok (.getfield 54, 3) := by decide +kernel
theorem dX7_copy_134 : decode cX7_copy 134 = .ok (.iload 6, 2) := by decide +kernel
theorem dX7_copy_136 : decode cX7_copy 136 = .ok (.aload_n 0, 1) := by decide +kernel
theorem dX7_copy_137 : decode cX7_copy 137 = .ok (.getfield 51, 3) := by decide +kernel
theorem dX7_copy_140 : decode cX7_copy 140 = .ok (.bipush 40, 2) := by decide +kernel
theorem dX7_copy_142 : decode cX7_copy 142 = .ok (.iload_n 1, 1) := by decide +kernel
theorem dX7_copy_143 : decode cX7_copy 143 = .ok (.imul, 1) := by decide +kernel
theorem dX7_copy_144 : decode cX7_copy 144 = .ok (.iload_n 2, 1) := by decide +kernel
theorem dX7_copy_145 : decode cX7_copy 145 = .ok (.iadd, 1) := by decide +kernel
theorem dX7_copy_146 : decode cX7_copy 146 = .ok (.iload 6, 2) := by decide +kernel
theorem dX7_copy_148 : decode cX7_copy 148 = .ok (.iadd, 1) := by decide +kernel
theorem dX7_copy_149 : decode cX7_copy 149 = .ok (.iaload, 1) := by decide +kernel
theorem dX7_copy_150 : decode cX7_copy 150 = .ok (.iastore, 1) := by decide +kernel
theorem dX7_copy_151 : decode cX7_copy 151 = .ok (.iinc 6 1, 3) := by decide +kernel
theorem dX7_copy_154 : decode cX7_copy 154 = .ok (.goto (-31), 3) := by decide +kernel
theorem dX7_copy_157 : decode cX7_copy 157 = .ok (.iconst 0, 1) := by decide +kernel
theorem dX7_copy_158 : decode cX7_copy 158 = .ok (.istore 6, 2) := by decide +kernel
theorem dX7_copy_160 : decode cX7_copy 160 = .ok (.iload 6, 2) := by decide +kernel
theorem dX7_copy_162 : decode cX7_copy 162 = .ok (.iload 5, 2) := by decide +kernel
theorem dX7_copy_164 : decode cX7_copy 164 = .ok (.if_icmp .ge 31, 3) := by decide +kernel
theorem dX7_copy_167 : decode cX7_copy 167 = .ok (.aload_n 0, 1) := by decide +kernel
theorem dX7_copy_168 : decode cX7_copy 168 = .ok (.getfield 51, 3) := by decide +kernel
theorem dX7_copy_171 : decode cX7_copy 171 = .ok (.bipush 40, 2) := by decide +kernel
theorem dX7_copy_173 : decode cX7_copy 173 = .ok (.iload_n 3, 1) := by decide +kernel
theorem dX7_copy_174 : decode cX7_copy 174 = .ok (.imul, 1) := by decide +kernel
theorem dX7_copy_175 : decode cX7_copy 175 = .ok (.iload 4, 2) := by decide +kernel
theorem dX7_copy_177 : decode cX7_copy 177 = .ok (.iadd, 1) := by decide +kernel
theorem dX7_copy_178 : decode cX7_copy 178 = .ok (.iload 6, 2) := by decide +kernel
theorem dX7_copy_180 : decode cX7_copy 180 = .ok (.iadd, 1) := by decide +kernel
theorem dX7_copy_181 : decode cX7_copy 181 = .ok (.aload_n 0, 1) := by decide +kernel
theorem dX7_copy_182 : decode cX7_copy 182 = .ok (.getfield 54, 3) := by decide +kernel
theorem dX7_copy_185 : decode cX7_copy 185 = .ok (.iload 6, 2) := by decide +kernel
theorem dX7_copy_187 : decode cX7_copy 187 = .ok (.iaload, 1) := by decide +kernel
theorem dX7_copy_188 : decode cX7_copy 188 = .ok (.iastore, 1) := by decide +kernel
theorem dX7_copy_189 : decode cX7_copy 189 = .ok (.iinc 6 1, 3) := by decide +kernel
theorem dX7_copy_192 : decode cX7_copy 192 = .ok (.goto (-32), 3) := by decide +kernel
theorem dX7_copy_195 : decode cX7_copy 195 = .ok (.iload 5, 2) := by decide +kernel
theorem dX7_copy_197 : decode cX7_copy 197 = .ok (.ireturn, 1) := by decide +kernel
set_option maxRecDepth 20000 in
theorem ggX7_load_X7_whyNone : GoodIn wsX7_load wsX7_whyNone := goodIn_r _ [8, 9, 10, 11, 7, 12, 13, 14, 15, 16, 27, 28, 29, 30, 31, 32, 33, 34, 35, 36, 37, 38, 39, 40, 41, 42, 43, 44, 45, 46, 47, 48, 49, 50, 51, 52, 53, 54] (by decide +kernel) (by decide +kernel)
set_option maxRecDepth 20000 in
theorem gX7_load_X7_whyNone : GoodIn wsX7_load (wsV RX7 320 RX7 yX7_whyNone wsX7_whyNone) := goodIn_app (goodIn_of _ (by decide +kernel)) ggX7_load_X7_whyNone
set_option maxRecDepth 20000 in
theorem ggX7_load_X7_finds : GoodIn wsX7_load wsX7_finds := goodIn_r _ [20, 21, 22, 27, 28, 29, 30, 31, 32, 33, 34, 35, 36, 37, 38, 39, 40, 41, 42, 43, 44, 45, 46, 47, 48, 49, 50, 51, 52, 53, 54] (by decide +kernel) (by decide +kernel)
set_option maxRecDepth 20000 in
theorem gX7_load_X7_finds : GoodIn wsX7_load (wsV RX7 106 RX7 yX7_finds wsX7_finds) := goodIn_app (goodIn_of _ (by decide +kernel)) ggX7_load_X7_finds
set_option maxRecDepth 20000 in
theorem ggX7_load_X7_in : GoodIn wsX7_load wsX7_in := goodIn_r _ [16] (by decide +kernel) (by decide +kernel)
set_option maxRecDepth 20000 in
theorem gX7_load_X7_in : GoodIn wsX7_load (va_wsS RX7 58 yX7_in wsX7_in) := goodIn_app (goodIn_of _ (by decide +kernel)) ggX7_load_X7_in
set_option maxRecDepth 20000 in
theorem ggX7_load_X7_sayOf : GoodIn wsX7_load wsX7_sayOf := goodIn_r _ [26, 2, 27, 28, 29, 30, 31, 32, 33, 34, 35, 36, 37, 38, 39, 40, 41, 42, 43, 44, 45, 46, 47, 48, 49, 50, 51, 52, 53, 54] (by decide +kernel) (by decide +kernel)
set_option maxRecDepth 20000 in
theorem gX7_load_X7_sayOf : GoodIn wsX7_load (wsV RX7 132 RX7 yX7_sayOf wsX7_sayOf) := goodIn_app (goodIn_of _ (by decide +kernel)) ggX7_load_X7_sayOf
theorem dX7_load_0 : decode cX7_load 0 = .ok (.aload_n 0, 1) := by decide +kernel
theorem dX7_load_1 : decode cX7_load 1 = .ok (.iload_n 1, 1) := by decide +kernel
theorem dX7_load_2 : decode cX7_load 2 = .ok (.invokevirtual 320, 3) := by decide +kernel
theorem dX7_load_5 : decode cX7_load 5 = .ok (.istore_n 2, 1) := by decide +kernel
theorem dX7_load_6 : decode cX7_load 6 = .ok (.iload_n 2, 1) := by decide +kernel
theorem dX7_load_7 : decode cX7_load 7 = .ok (.ifCond .lt 9, 3) := by decide +kernel
theorem dX7_load_10 : decode cX7_load 10 = .ok (.aload_n 0, 1) := by decide +kernel
theorem dX7_load_11 : decode cX7_load 11 = .ok (.iload_n 2, 1) := by decide +kernel
theorem dX7_load_12 : decode cX7_load 12 = .ok (.invokevirtual 106, 3) := by decide +kernel
theorem dX7_load_15 : decode cX7_load 15 = .ok (.ireturn, 1) := by decide +kernel
theorem dX7_load_16 : decode cX7_load 16 = .ok (.iconst 0, 1) := by decide +kernel
theorem dX7_load_17 : decode cX7_load 17 = .ok (.istore_n 3, 1) := by decide +kernel
theorem dX7_load_18 : decode cX7_load 18 = .ok (.iload_n 3, 1) := by decide +kernel
theorem dX7_load_19 : decode cX7_load 19 = .ok (.aload_n 0, 1) := by decide +kernel
theorem dX7_load_20 : decode cX7_load 20 = .ok (.getfield 48, 3) := by decide +kernel
theorem dX7_load_23 : decode cX7_load 23 = .ok (.iload_n 1, 1) := by decide +kernel
theorem dX7_load_24 : decode cX7_load 24 = .ok (.iaload, 1) := by decide +kernel
theorem dX7_load_25 : decode cX7_load 25 = .ok (.if_icmp .ge 55, 3) := by decide +kernel
theorem dX7_load_28 : decode cX7_load 28 = .ok (.iload_n 3, 1) := by decide +kernel
theorem dX7_load_29 : decode cX7_load 29 = .ok (.aload_n 0, 1) := by decide +kernel
theorem dX7_load_30 : decode cX7_load 30 = .ok (.getfield 7, 3) := by decide +kernel
theorem dX7_load_33 : decode cX7_load 33 = .ok (.iconst 0, 1) := by decide +kernel
theorem dX7_load_34 : decode cX7_load 34 = .ok (.iaload, 1) := by decide +kernel
theorem dX7_load_35 : decode cX7_load 35 = .ok (.if_icmp .ge 45, 3) := by decide +kernel
theorem dX7_load_38 : decode cX7_load 38 = .ok (.aload_n 0, 1) := by decide +kernel
theorem dX7_load_39 : decode cX7_load 39 = .ok (.getfield 51, 3) := by decide +kernel
theorem dX7_load_42 : decode cX7_load 42 = .ok (.bipush 40, 2) := by decide +kernel
theorem dX7_load_44 : decode cX7_load 44 = .ok (.iload_n 1, 1) := by decide +kernel
theorem dX7_load_45 : decode cX7_load 45 = .ok (.imul, 1) := by decide +kernel
theorem dX7_load_46 : decode cX7_load 46 = .ok (.iload_n 3, 1) := by decide +kernel
theorem dX7_load_47 : decode cX7_load 47 = .ok (.iadd, 1) := by decide +kernel
theorem dX7_load_48 : decode cX7_load 48 = .ok (.iaload, 1) := by decide +kernel
theorem dX7_load_49 : decode cX7_load 49 = .ok (.i2l, 1) := by decide +kernel
theorem dX7_load_50 : decode cX7_load 50 = .ok (.lconst 0, 1) := by decide +kernel
theorem dX7_load_51 : decode cX7_load 51 = .ok (.lconst 1, 1) := by decide +kernel
theorem dX7_load_52 : decode cX7_load 52 = .ok (.invokestatic 58, 3) := by decide +kernel
theorem dX7_load_55 : decode cX7_load 55 = .ok (.ifCond .eq 25, 3) := by decide +kernel
theorem dX7_load_58 : decode cX7_load 58 = .ok (.aload_n 0, 1) := by decide +kernel
theorem dX7_load_59 : decode cX7_load 59 = .ok (.iload_n 3, 1) := by decide +kernel
theorem dX7_load_60 : decode cX7_load 60 = .ok (.aload_n 0, 1) := by decide +kernel
theorem dX7_load_61 : decode cX7_load 61 = .ok (.getfield 51, 3) := by decide +kernel
theorem dX7_load_64 : decode cX7_load 64 = .ok (.bipush 40, 2) := by decide +kernel
theorem dX7_load_66 : decode cX7_load 66 = .ok (.iload_n 1, 1) := by decide +kernel
theorem dX7_load_67 : decode cX7_load 67 = .ok (.imul, 1) := by decide +kernel
theorem dX7_load_68 : decode cX7_load 68 = .ok (.iload_n 3, 1) := by decide +kernel
theorem dX7_load_69 : decode cX7_load 69 = .ok (.iadd, 1) := by decide +kernel
theorem dX7_load_70 : decode cX7_load 70 = .ok (.iaload, 1) := by decide +kernel
theorem dX7_load_71 : decode cX7_load 71 = .ok (.invokevirtual 132, 3) := by decide +kernel
theorem dX7_load_74 : decode cX7_load 74 = .ok (.iinc 3 1, 3) := by decide +kernel
theorem dX7_load_77 : decode cX7_load 77 = .ok (.goto (-59), 3) := by decide +kernel
theorem dX7_load_80 : decode cX7_load 80 = .ok (.iload_n 3, 1) := by decide +kernel
theorem dX7_load_81 : decode cX7_load 81 = .ok (.ireturn, 1) := by decide +kernel
set_option maxRecDepth 20000 in
theorem ggX7_judge_X7_whyNone : GoodIn wsX7_judge wsX7_whyNone := goodIn_r _ [8, 9, 10, 11, 7, 12, 13, 14, 15, 16, 64, 65, 66, 67, 68, 69, 70, 71, 72, 73, 74, 75, 76, 77, 78, 79, 80, 81, 82, 83, 84, 85, 86, 87, 88, 89, 90, 91] (by decide +kernel) (by decide +kernel)
set_option maxRecDepth 20000 in
theorem gX7_judge_X7_whyNone : GoodIn wsX7_judge (wsV RX7 320 RX7 yX7_whyNone wsX7_whyNone) := goodIn_app (goodIn_of _ (by decide +kernel)) ggX7_judge_X7_whyNone
set_option maxRecDepth 20000 in
theorem ggX7_judge_X7_finds : GoodIn wsX7_judge wsX7_finds := goodIn_r _ [20, 21, 22, 64, 65, 66, 67, 68, 69, 70, 71, 72, 73, 74, 75, 76, 77, 78, 79, 80, 81, 82, 83, 84, 85, 86, 87, 88, 89, 90, 91] (by decide +kernel) (by decide +kernel)
set_option maxRecDepth 20000 in
theorem gX7_judge_X7_finds : GoodIn wsX7_judge (wsV RX7 106 RX7 yX7_finds wsX7_finds) := goodIn_app (goodIn_of _ (by decide +kernel)) ggX7_judge_X7_finds
set_option maxRecDepth 20000 in
theorem ggX7_judge_X7_listen : GoodIn wsX7_judge wsX7_listen := goodIn_r _ [26, 1, 27, 28, 29, 30, 31, 7, 32, 33, 34, 35, 36, 37, 38, 39, 40, 41, 42, 43, 44, 45, 46, 47, 48, 49, 50, 51, 52, 64, 65, 66, 67, 68, 69, 70, 71, 72, 73, 74, 75, 76, 77, 78, 79, 80, 81, 82, 83, 84, 85, 86, 87, 88, 89, 90, 91] (by decide +kernel) (by decide +kernel)
set_option maxRecDepth 20000 in
theorem gX7_judge_X7_listen : GoodIn wsX7_judge (wsV RX7 120 RX7 yX7_listen wsX7_listen) := goodIn_app (goodIn_of _ (by decide +kernel)) ggX7_judge_X7_listen
set_option maxRecDepth 20000 in
theorem ggX7_judge_X7_nextOf : GoodIn wsX7_judge wsX7_nextOf := goodIn_r _ [56, 1, 57, 58, 59, 7, 60, 28, 27, 29, 30, 31, 32, 64, 65, 66, 67, 68, 69, 70, 71, 72, 73, 74, 75, 76, 77, 78, 79, 80, 81, 82, 83, 84, 85, 86, 87, 88, 89, 90, 91] (by decide +kernel) (by decide +kernel)
set_option maxRecDepth 20000 in
theorem gX7_judge_X7_nextOf : GoodIn wsX7_judge (wsV RX7 87 RX7 yX7_nextOf wsX7_nextOf) := goodIn_app (goodIn_of _ (by decide +kernel)) ggX7_judge_X7_nextOf
set_option maxRecDepth 20000 in
theorem ggX7_judge_X7_ones : GoodIn wsX7_judge wsX7_ones := goodIn_r _ [63] (by decide +kernel) (by decide +kernel)
set_option maxRecDepth 20000 in
theorem gX7_judge_X7_ones : GoodIn wsX7_judge (va_wsS RX7 148 yX7_ones wsX7_ones) := goodIn_app (goodIn_of _ (by decide +kernel)) ggX7_judge_X7_ones
theorem dX7_judge_0 : decode cX7_judge 0 = .ok (.aload_n 0, 1) := by decide +kernel
theorem dX7_judge_1 : decode cX7_judge 1 = .ok (.iload_n 1, 1) := by decide +kernel
theorem dX7_judge_2 : decode cX7_judge 2 = .ok (.invokevirtual 320, 3) := by decide +kernel
theorem dX7_judge_5 : decode cX7_judge 5 = .ok (.istore_n 2, 1) := by decide +kernel
theorem dX7_judge_6 : decode cX7_judge 6 = .ok (.iload_n 2, 1) := by decide +kernel
theorem dX7_judge_7 : decode cX7_judge 7 = .ok (.ifCond .lt 9, 3) := by decide +kernel
theorem dX7_judge_10 : decode cX7_judge 10 = .ok (.aload_n 0, 1) := by decide +kernel
theorem dX7_judge_11 : decode cX7_judge 11 = .ok (.iload_n 2, 1) := by decide +kernel
theorem dX7_judge_12 : decode cX7_judge 12 = .ok (.invokevirtual 106, 3) := by decide +kernel
theorem dX7_judge_15 : decode cX7_judge 15 = .ok (.ireturn, 1) := by decide +kernel
theorem dX7_judge_16 : decode cX7_judge 16 = .ok (.aload_n 0, 1) := by decide +kernel
theorem dX7_judge_17 : decode cX7_judge 17 = .ok (.invokevirtual 120, 3) := by decide +kernel
theorem dX7_judge_20 : decode cX7_judge 20 = .ok (.aload_n 0, 1) := by decide +kernel
theorem dX7_judge_21 : decode cX7_judge 21 = .ok (.getfield 7, 3) := by decide +kernel
theorem dX7_judge_24 : decode cX7_judge 24 = .ok (.bipush 6, 2) := by decide +kernel
theorem dX7_judge_26 : decode cX7_judge 26 = .ok (.iaload, 1) := by decide +kernel
theorem dX7_judge_27 : decode cX7_judge 27 = .ok (.istore_n 3, 1) := by decide +kernel
theorem dX7_judge_28 : decode cX7_judge 28 = .ok (.iconst 0, 1) := by decide +kernel
theorem dX7_judge_29 : decode cX7_judge 29 = .ok (.istore 4, 2) := by decide +kernel
theorem dX7_judge_31 : decode cX7_judge 31 = .ok (.iload 4, 2) := by decide +kernel
theorem dX7_judge_33 : decode cX7_judge 33 = .ok (.aload_n 0, 1) := by decide +kernel
theorem dX7_judge_34 : decode cX7_judge 34 = .ok (.getfield 48, 3) := by decide +kernel
theorem dX7_judge_37 : decode cX7_judge 37 = .ok (.iload_n 1, 1) := by decide +kernel
theorem dX7_judge_38 : decode cX7_judge 38 = .ok (.iaload, 1) := by decide +kernel
theorem dX7_judge_39 : decode cX7_judge 39 = .ok (.if_icmp .ge 39, 3) := by decide +kernel
theorem dX7_judge_42 : decode cX7_judge 42 = .ok (.aload_n 0, 1) := by decide +kernel
theorem dX7_judge_43 : decode cX7_judge 43 = .ok (.iload_n 3, 1) := by decide +kernel
theorem dX7_judge_44 : decode cX7_judge 44 = .ok (.invokevirtual 87, 3) := by decide +kernel
theorem dX7_judge_47 : decode cX7_judge 47 = .ok (.istore_n 3, 1) := by decide +kernel
theorem dX7_judge_48 : decode cX7_judge 48 = .ok (.aload_n 0, 1) := by decide +kernel
theorem dX7_judge_49 : decode cX7_judge 49 = .ok (.getfield 51, 3) := by decide +kernel
theorem dX7_judge_52 : decode cX7_judge 52 = .ok (.bipush 40, 2) := by decide +kernel
theorem dX7_judge_54 : decode cX7_judge 54 = .ok (.iload_n 1, 1) := by decide +kernel
theorem dX7_judge_55 : decode cX7_judge 55 = .ok (.imul, 1) := by decide +kernel
theorem dX7_judge_56 : decode cX7_judge 56 = .ok (.iload 4, 2) := by decide +kernel
theorem dX7_judge_58 : decode cX7_judge 58 = .ok (.iadd, 1) := by decide +kernel
theorem dX7_judge_59 : decode cX7_judge 59 = .ok (.iaload, 1) := by decide +kernel
theorem dX7_judge_60 : decode cX7_judge 60 = .ok (.iload_n 3, 1) := by decide +kernel
theorem dX7_judge_61 : decode cX7_judge 61 = .ok (.invokestatic 148, 3) := by decide +kernel
theorem dX7_judge_64 : decode cX7_judge 64 = .ok (.if_icmp .eq 8, 3) := by decide +kernel
theorem dX7_judge_67 : decode cX7_judge 67 = .ok (.iconst 1, 1) := by decide +kernel
theorem dX7_judge_68 : decode cX7_judge 68 = .ok (.iload 4, 2) := by decide +kernel
theorem dX7_judge_70 : decode cX7_judge 70 = .ok (.iadd, 1) := by decide +kernel
theorem dX7_judge_71 : decode cX7_judge 71 = .ok (.ireturn, 1) := by decide +kernel
theorem dX7_judge_72 : decode cX7_judge 72 = .ok (.iinc 4 1, 3) := by decide +kernel
theorem dX7_judge_75 : decode cX7_judge 75 = .ok (.goto (-44), 3) := by decide +kernel
theorem dX7_judge_78 : decode cX7_judge 78 = .ok (.iconst 0, 1) := by decide +kernel
theorem dX7_judge_79 : decode cX7_judge 79 = .ok (.ireturn, 1) := by decide +kernel
set_option maxRecDepth 20000 in
theorem ggX7_image_X7_copies : GoodIn wsX7_image wsX7_copies := goodIn_r _ [7] (by decide +kernel) (by decide +kernel)
set_option maxRecDepth 20000 in
theorem gX7_image_X7_copies : GoodIn wsX7_image (va_wsS RX7 183 yX7_copies wsX7_copies) := goodIn_app (goodIn_of _ (by decide +kernel)) ggX7_image_X7_copies
theorem dX7_image_0 : decode cX7_image 0 = .ok (.aload_n 0, 1) := by decide +kernel
theorem dX7_image_1 : decode cX7_image 1 = .ok (.getfield 7, 3) := by decide +kernel
theorem dX7_image_4 : decode cX7_image 4 = .ok (.aload_n 0, 1) := by decide +kernel
theorem dX7_image_5 : decode cX7_image 5 = .ok (.getfield 16, 3) := by decide +kernel
theorem dX7_image_8 : decode cX7_image 8 = .ok (.invokestatic 183, 3) := by decide +kernel
theorem dX7_image_11 : decode cX7_image 11 = .ok (.aload_n 0, 1) := by decide +kernel
theorem dX7_image_12 : decode cX7_image 12 = .ok (.iconst 1, 1) := by decide +kernel
theorem dX7_image_13 : decode cX7_image 13 = .ok (.putfield 323, 3) := by decide +kernel
theorem dX7_image_16 : decode cX7_image 16 = .ok (.iconst 1, 1) := by decide +kernel
theorem dX7_image_17 : decode cX7_image 17 = .ok (.ireturn, 1) := by decide +kernel
set_option maxRecDepth 20000 in
theorem ggX7_undo_X7_finds : GoodIn wsX7_undo wsX7_finds := goodIn_r _ [8, 9, 10, 14, 15, 16, 17, 18, 19, 20, 21, 22, 23, 24, 25, 26, 27, 28, 29, 30, 31, 32, 33, 34, 35, 36, 37, 38, 39, 40, 41] (by decide +kernel) (by decide +kernel)
set_option maxRecDepth 20000 in
theorem gX7_undo_X7_finds : GoodIn wsX7_undo (wsV RX7 106 RX7 yX7_finds wsX7_finds) := goodIn_app (goodIn_of _ (by decide +kernel)) ggX7_undo_X7_finds
set_option maxRecDepth 20000 in
theorem ggX7_undo_X7_copies : GoodIn wsX7_undo wsX7_copies := goodIn_r _ [13] (by decide +kernel) (by decide +kernel)
set_option maxRecDepth 20000 in
theorem gX7_undo_X7_copies : GoodIn wsX7_undo (va_wsS RX7 183 yX7_copies wsX7_copies) := goodIn_app (goodIn_of _ (by decide +kernel)) ggX7_undo_X7_copies
theorem dX7_undo_0 : decode cX7_undo 0 = .ok (.aload_n 0, 1) := by decide +kernel
theorem dX7_undo_1 : decode cX7_undo 1 = .ok (.getfield 323, 3) := by decide +kernel
theorem dX7_undo_4 : decode cX7_undo 4 = .ok (.ifCond .ne 9, 3) := by decide +kernel
theorem dX7_undo_7 : decode cX7_undo 7 = .ok (.aload_n 0, 1) := by decide +kernel
theorem dX7_undo_8 : decode cX7_undo 8 = .ok (.iconst 3, 1) := by decide +kernel
theorem dX7_undo_9 : decode cX7_undo 9 = .ok (.invokevirtual 106, 3) := by decide +kernel
theorem dX7_undo_12 : decode cX7_undo 12 = .ok (.ireturn, 1) := by decide +kernel
theorem dX7_undo_13 : decode cX7_undo 13 = .ok (.aload_n 0, 1) := by decide +kernel
theorem dX7_undo_14 : decode cX7_undo 14 = .ok (.getfield 16, 3) := by decide +kernel
theorem dX7_undo_17 : decode cX7_undo 17 = .ok (.aload_n 0, 1) := by decide +kernel
theorem dX7_undo_18 : decode cX7_undo 18 = .ok (.getfield 7, 3) := by decide +kernel
theorem dX7_undo_21 : decode cX7_undo 21 = .ok (.invokestatic 183, 3) := by decide +kernel
theorem dX7_undo_24 : decode cX7_undo 24 = .ok (.aload_n 0, 1) := by decide +kernel
theorem dX7_undo_25 : decode cX7_undo 25 = .ok (.getfield 7, 3) := by decide +kernel
theorem dX7_undo_28 : decode cX7_undo 28 = .ok (.iconst 1, 1) := by decide +kernel
theorem dX7_undo_29 : decode cX7_undo 29 = .ok (.iaload, 1) := by decide +kernel
theorem dX7_undo_30 : decode cX7_undo 30 = .ok (.ireturn, 1) := by decide +kernel
theorem dX7_tear_0 : decode cX7_tear 0 = .ok (.aload_n 0, 1) := by decide +kernel
theorem dX7_tear_1 : decode cX7_tear 1 = .ok (.getfield 323, 3) := by decide +kernel
theorem dX7_tear_4 : decode cX7_tear 4 = .ok (.ifCond .eq 7, 3) := by decide +kernel
theorem dX7_tear_7 : decode cX7_tear 7 = .ok (.iconst 1, 1) := by decide +kernel
theorem dX7_tear_8 : decode cX7_tear 8 = .ok (.goto 4, 3) := by decide +kernel
theorem dX7_tear_11 : decode cX7_tear 11 = .ok (.iconst 0, 1) := by decide +kernel
theorem dX7_tear_12 : decode cX7_tear 12 = .ok (.istore_n 1, 1) := by decide +kernel
theorem dX7_tear_13 : decode cX7_tear 13 = .ok (.aload_n 0, 1) := by decide +kernel
theorem dX7_tear_14 : decode cX7_tear 14 = .ok (.iconst 0, 1) := by decide +kernel
theorem dX7_tear_15 : decode cX7_tear 15 = .ok (.putfield 323, 3) := by decide +kernel
theorem dX7_tear_18 : decode cX7_tear 18 = .ok (.iload_n 1, 1) := by decide +kernel
theorem dX7_tear_19 : decode cX7_tear 19 = .ok (.ireturn, 1) := by decide +kernel
theorem dX7_holding_0 : decode cX7_holding 0 = .ok (.iconst 0, 1) := by decide +kernel
theorem dX7_holding_1 : decode cX7_holding 1 = .ok (.istore_n 1, 1) := by decide +kernel
theorem dX7_holding_2 : decode cX7_holding 2 = .ok (.iconst 0, 1) := by decide +kernel
theorem dX7_holding_3 : decode cX7_holding 3 = .ok (.istore_n 2, 1) := by decide +kernel
theorem dX7_holding_4 : decode cX7_holding 4 = .ok (.iload_n 2, 1) := by decide +kernel
theorem dX7_holding_5 : decode cX7_holding 5 = .ok (.bipush 10, 2) := by decide +kernel
theorem dX7_holding_7 : decode cX7_holding 7 = .ok (.if_icmp .ge 29, 3) := by decide +kernel
theorem dX7_holding_10 : decode cX7_holding 10 = .ok (.iload_n 1, 1) := by decide +kernel
theorem dX7_holding_11 : decode cX7_holding 11 = .ok (.aload_n 0, 1) := by decide +kernel
theorem dX7_holding_12 : decode cX7_holding 12 = .ok (.getfield 7, 3) := by decide +kernel
theorem dX7_holding_15 : decode cX7_holding 15 = .ok (.bipush 30, 2) := by decide +kernel
theorem dX7_holding_17 : decode cX7_holding 17 = .ok (.iload_n 2, 1) := by decide +kernel
theorem dX7_holding_18 : decode cX7_holding 18 = .ok (.iadd, 1) := by decide +kernel
theorem dX7_holding_19 : decode cX7_holding 19 = .ok (.iaload, 1) := by decide +kernel
theorem dX7_holding_20 : decode cX7_holding 20 = .ok (.ifCond .le 7, 3) := by decide +kernel
theorem dX7_holding_23 : decode cX7_holding 23 = .ok (.iconst 1, 1) := by decide +kernel
theorem dX7_holding_24 : decode cX7_holding 24 = .ok (.goto 4, 3) := by decide +kernel
theorem dX7_holding_27 : decode cX7_holding 27 = .ok (.iconst 0, 1) := by decide +kernel
theorem dX7_holding_28 : decode cX7_holding 28 = .ok (.iadd, 1) := by decide +kernel
theorem dX7_holding_29 : decode cX7_holding 29 = .ok (.istore_n 1, 1) := by decide +kernel
theorem dX7_holding_30 : decode cX7_holding 30 = .ok (.iinc 2 1, 3) := by decide +kernel
theorem dX7_holding_33 : decode cX7_holding 33 = .ok (.goto (-29), 3) := by decide +kernel
theorem dX7_holding_36 : decode cX7_holding 36 = .ok (.iload_n 1, 1) := by decide +kernel
theorem dX7_holding_37 : decode cX7_holding 37 = .ok (.ireturn, 1) := by decide +kernel
set_option maxRecDepth 20000 in
theorem ggX7_count_X7_ones : GoodIn wsX7_count wsX7_ones := goodIn_r _ [6] (by decide +kernel) (by decide +kernel)
set_option maxRecDepth 20000 in
theorem gX7_count_X7_ones : GoodIn wsX7_count (va_wsS RX7 148 yX7_ones wsX7_ones) := goodIn_app (goodIn_of _ (by decide +kernel)) ggX7_count_X7_ones
set_option maxRecDepth 20000 in
theorem ggX7_count_X7_holding : GoodIn wsX7_count wsX7_holding := goodIn_r _ [10, 1, 17, 18, 19, 20, 21, 22, 23, 24, 25, 26, 27, 28, 29, 30, 31, 32, 33, 34, 35, 36, 37, 38, 39, 40, 41, 42, 43, 44] (by decide +kernel) (by decide +kernel)
set_option maxRecDepth 20000 in
theorem gX7_count_X7_holding : GoodIn wsX7_count (wsV RX7 327 RX7 yX7_holding wsX7_holding) := goodIn_app (goodIn_of _ (by decide +kernel)) ggX7_count_X7_holding
set_option maxRecDepth 20000 in
theorem ggX7_count_X7_finds : GoodIn wsX7_count wsX7_finds := goodIn_r _ [14, 15, 16, 17, 18, 19, 20, 21, 22, 23, 24, 25, 26, 27, 28, 29, 30, 31, 32, 33, 34, 35, 36, 37, 38, 39, 40, 41, 42, 43, 44] (by decide +kernel) (by decide +kernel)
set_option maxRecDepth 20000 in
theorem gX7_count_X7_finds : GoodIn wsX7_count (wsV RX7 106 RX7 yX7_finds wsX7_finds) := goodIn_app (goodIn_of _ (by decide +kernel)) ggX7_count_X7_finds
theorem dX7_count_0 : decode cX7_count 0 = .ok (.iload_n 1, 1) := by decide +kernel
theorem dX7_count_1 : decode cX7_count 1 = .ok (.tableswitch 103 0 7 #[47, 54, 61, 72, 79, 86, 91, 98], 47) := by decide +kernel
theorem dX7_count_48 : decode cX7_count 48 = .ok (.aload_n 0, 1) := by decide +kernel
theorem dX7_count_49 : decode cX7_count 49 = .ok (.getfield 7, 3) := by decide +kernel
theorem dX7_count_52 : decode cX7_count 52 = .ok (.iconst 1, 1) := by decide +kernel
theorem dX7_count_53 : decode cX7_count 53 = .ok (.iaload, 1) := by decide +kernel
theorem dX7_count_54 : decode cX7_count 54 = .ok (.ireturn, 1) := by decide +kernel
theorem dX7_count_55 : decode cX7_count 55 = .ok (.aload_n 0, 1) := by decide +kernel
theorem dX7_count_56 : decode cX7_count 56 = .ok (.getfield 7, 3) := by decide +kernel
theorem dX7_count_59 : decode cX7_count 59 = .ok (.iconst 0, 1) := by decide +kernel
theorem dX7_count_60 : decode cX7_count 60 = .ok (.iaload, 1) := by decide +kernel
theorem dX7_count_61 : decode cX7_count 61 = .ok (.ireturn, 1) := by decide +kernel
theorem dX7_count_62 : decode cX7_count 62 = .ok (.aload_n 0, 1) := by decide +kernel
theorem dX7_count_63 : decode cX7_count 63 = .ok (.getfield 7, 3) := by decide +kernel
theorem dX7_count_66 : decode cX7_count 66 = .ok (.bipush 6, 2) := by decide +kernel
theorem dX7_count_68 : decode cX7_count 68 = .ok (.iaload, 1) := by decide +kernel
theorem dX7_count_69 : decode cX7_count 69 = .ok (.invokestatic 148, 3) := by decide +kernel
theorem dX7_count_72 : decode cX7_count 72 = .ok (.ireturn, 1) := by decide +kernel
theorem dX7_count_73 : decode cX7_count 73 = .ok (.aload_n 0, 1) := by decide +kernel
theorem dX7_count_74 : decode cX7_count 74 = .ok (.getfield 7, 3) := by decide +kernel
theorem dX7_count_77 : decode cX7_count 77 = .ok (.iconst 3, 1) := by decide +kernel
theorem dX7_count_78 : decode cX7_count 78 = .ok (.iaload, 1) := by decide +kernel
theorem dX7_count_79 : decode cX7_count 79 = .ok (.ireturn, 1) := by decide +kernel
theorem dX7_count_80 : decode cX7_count 80 = .ok (.aload_n 0, 1) := by decide +kernel
theorem dX7_count_81 : decode cX7_count 81 = .ok (.getfield 7, 3) := by decide +kernel
theorem dX7_count_84 : decode cX7_count 84 = .ok (.iconst 4, 1) := by decide +kernel
theorem dX7_count_85 : decode cX7_count 85 = .ok (.iaload, 1) := by decide +kernel
theorem dX7_count_86 : decode cX7_count 86 = .ok (.ireturn, 1) := by decide +kernel
theorem dX7_count_87 : decode cX7_count 87 = .ok (.aload_n 0, 1) := by decide +kernel
theorem dX7_count_88 : decode cX7_count 88 = .ok (.getfield 216, 3) := by decide +kernel
theorem dX7_count_91 : decode cX7_count 91 = .ok (.ireturn, 1) := by decide +kernel
theorem dX7_count_92 : decode cX7_count 92 = .ok (.aload_n 0, 1) := by decide +kernel
theorem dX7_count_93 : decode cX7_count 93 = .ok (.getfield 7, 3) := by decide +kernel
theorem dX7_count_96 : decode cX7_count 96 = .ok (.iconst 2, 1) := by decide +kernel
theorem dX7_count_97 : decode cX7_count 97 = .ok (.iaload, 1) := by decide +kernel
theorem dX7_count_98 : decode cX7_count 98 = .ok (.ireturn, 1) := by decide +kernel
theorem dX7_count_99 : decode cX7_count 99 = .ok (.aload_n 0, 1) := by decide +kernel
theorem dX7_count_100 : decode cX7_count 100 = .ok (.invokevirtual 327, 3) := by decide +kernel
theorem dX7_count_103 : decode cX7_count 103 = .ok (.ireturn, 1) := by decide +kernel
theorem dX7_count_104 : decode cX7_count 104 = .ok (.aload_n 0, 1) := by decide +kernel
theorem dX7_count_105 : decode cX7_count 105 = .ok (.iconst 0, 1) := by decide +kernel
theorem dX7_count_106 : decode cX7_count 106 = .ok (.invokevirtual 106, 3) := by decide +kernel
theorem dX7_count_109 : decode cX7_count 109 = .ok (.ireturn, 1) := by decide +kernel
set_option maxRecDepth 20000 in
theorem ggX7_status_X7_in : GoodIn wsX7_status wsX7_in := goodIn_r _ [7] (by decide +kernel) (by decide +kernel)
set_option maxRecDepth 20000 in
theorem gX7_status_X7_in : GoodIn wsX7_status (va_wsS RX7 58 yX7_in wsX7_in) := goodIn_app (goodIn_of _ (by decide +kernel)) ggX7_status_X7_in
set_option maxRecDepth 20000 in
theorem ggX7_status_X7_finds : GoodIn wsX7_status wsX7_finds := goodIn_r _ [11, 3, 12, 13, 14, 15, 16, 17, 18, 19, 20, 21, 22, 23, 24, 25, 26, 27, 28, 29, 30, 31, 32, 33, 34, 35, 36, 37, 38, 39, 40] (by decide +kernel) (by decide +kernel)
set_option maxRecDepth 20000 in
theorem gX7_status_X7_finds : GoodIn wsX7_status (wsV RX7 106 RX7 yX7_finds wsX7_finds) := goodIn_app (goodIn_of _ (by decide +kernel)) ggX7_status_X7_finds
theorem dX7_status_0 : decode cX7_status 0 = .ok (.iload_n 1, 1) := by decide +kernel
theorem dX7_status_1 : decode cX7_status 1 = .ok (.i2l, 1) := by decide +kernel
theorem dX7_status_2 : decode cX7_status 2 = .ok (.ldc2_w 310, 3) := by decide +kernel
theorem dX7_status_5 : decode cX7_status 5 = .ok (.ldc2_w 100, 3) := by decide +kernel
theorem dX7_status_8 : decode cX7_status 8 = .ok (.invokestatic 58, 3) := by decide +kernel
theorem dX7_status_11 : decode cX7_status 11 = .ok (.ifCond .ne 9, 3) := by decide +kernel
theorem dX7_status_14 : decode cX7_status 14 = .ok (.aload_n 0, 1) := by decide +kernel
theorem dX7_status_15 : decode cX7_status 15 = .ok (.iconst 0, 1) := by decide +kernel
theorem dX7_status_16 : decode cX7_status 16 = .ok (.invokevirtual 106, 3) := by decide +kernel
theorem dX7_status_19 : decode cX7_status 19 = .ok (.ireturn, 1) := by decide +kernel
theorem dX7_status_20 : decode cX7_status 20 = .ok (.iconst 0, 1) := by decide +kernel
theorem dX7_status_21 : decode cX7_status 21 = .ok (.istore_n 2, 1) := by decide +kernel
theorem dX7_status_22 : decode cX7_status 22 = .ok (.iconst 0, 1) := by decide +kernel
theorem dX7_status_23 : decode cX7_status 23 = .ok (.istore_n 3, 1) := by decide +kernel
theorem dX7_status_24 : decode cX7_status 24 = .ok (.iload_n 3, 1) := by decide +kernel
theorem dX7_status_25 : decode cX7_status 25 = .ok (.bipush 7, 2) := by decide +kernel
theorem dX7_status_27 : decode cX7_status 27 = .ok (.if_icmp .ge 18, 3) := by decide +kernel
theorem dX7_status_30 : decode cX7_status 30 = .ok (.iload_n 2, 1) := by decide +kernel
theorem dX7_status_31 : decode cX7_status 31 = .ok (.aload_n 0, 1) := by decide +kernel
theorem dX7_status_32 : decode cX7_status 32 = .ok (.getfield 19, 3) := by decide +kernel
theorem dX7_status_35 : decode cX7_status 35 = .ok (.iload_n 3, 1) := by decide +kernel
theorem dX7_status_36 : decode cX7_status 36 = .ok (.iaload, 1) := by decide +kernel
theorem dX7_status_37 : decode cX7_status 37 = .ok (.iadd, 1) := by decide +kernel
theorem dX7_status_38 : decode cX7_status 38 = .ok (.istore_n 2, 1) := by decide +kernel
theorem dX7_status_39 : decode cX7_status 39 = .ok (.iinc 3 1, 3) := by decide +kernel
theorem dX7_status_42 : decode cX7_status 42 = .ok (.goto (-18), 3) := by decide +kernel
theorem dX7_status_45 : decode cX7_status 45 = .ok (.iload_n 1, 1) := by decide +kernel
theorem dX7_status_46 : decode cX7_status 46 = .ok (.ifCond .ge 7, 3) := by decide +kernel
theorem dX7_status_49 : decode cX7_status 49 = .ok (.iload_n 2, 1) := by decide +kernel
theorem dX7_status_50 : decode cX7_status 50 = .ok (.goto 9, 3) := by decide +kernel
theorem dX7_status_53 : decode cX7_status 53 = .ok (.aload_n 0, 1) := by decide +kernel
theorem dX7_status_54 : decode cX7_status 54 = .ok (.getfield 19, 3) := by decide +kernel
theorem dX7_status_57 : decode cX7_status 57 = .ok (.iload_n 1, 1) := by decide +kernel
theorem dX7_status_58 : decode cX7_status 58 = .ok (.iaload, 1) := by decide +kernel
theorem dX7_status_59 : decode cX7_status 59 = .ok (.ireturn, 1) := by decide +kernel
