set_option maxRecDepth 20000 in
theorem ggX0_init_J7_fill_53178 : GoodIn wsX0_init wsJ7_fill_53178 := goodIn_r _ [13] (by decide +kernel) (by decide +kernel)
set_option maxRecDepth 20000 in
theorem gX0_init_J7_fill_53178 : GoodIn wsX0_init (va_wsS RX0 29 yJ7_fill_53178 wsJ7_fill_53178) := goodIn_app (goodIn_of _ (by decide +kernel)) ggX0_init_J7_fill_53178
theorem dX0_init_0 : decode cX0_init 0 = .ok (.aload_n 0, 1) := by decide +kernel
theorem dX0_init_1 : decode cX0_init 1 = .ok (.invokespecial 3, 3) := by decide +kernel
theorem dX0_init_4 : decode cX0_init 4 = .ok (.aload_n 0, 1) := by decide +kernel
theorem dX0_init_5 : decode cX0_init 5 = .ok (.bipush 10, 2) := by decide +kernel
theorem dX0_init_7 : decode cX0_init 7 = .ok (.newarray .int, 2) := by decide +kernel
theorem dX0_init_9 : decode cX0_init 9 = .ok (.putfield 9, 3) := by decide +kernel
theorem dX0_init_12 : decode cX0_init 12 = .ok (.aload_n 0, 1) := by decide +kernel
theorem dX0_init_13 : decode cX0_init 13 = .ok (.bipush 10, 2) := by decide +kernel
theorem dX0_init_15 : decode cX0_init 15 = .ok (.newarray .int, 2) := by decide +kernel
theorem dX0_init_17 : decode cX0_init 17 = .ok (.putfield 15, 3) := by decide +kernel
theorem dX0_init_20 : decode cX0_init 20 = .ok (.aload_n 0, 1) := by decide +kernel
theorem dX0_init_21 : decode cX0_init 21 = .ok (.bipush 10, 2) := by decide +kernel
theorem dX0_init_23 : decode cX0_init 23 = .ok (.newarray .int, 2) := by decide +kernel
theorem dX0_init_25 : decode cX0_init 25 = .ok (.putfield 18, 3) := by decide +kernel
theorem dX0_init_28 : decode cX0_init 28 = .ok (.aload_n 0, 1) := by decide +kernel
theorem dX0_init_29 : decode cX0_init 29 = .ok (.iconst 1, 1) := by decide +kernel
theorem dX0_init_30 : decode cX0_init 30 = .ok (.putfield 21, 3) := by decide +kernel
theorem dX0_init_33 : decode cX0_init 33 = .ok (.aload_n 0, 1) := by decide +kernel
theorem dX0_init_34 : decode cX0_init 34 = .ok (.iconst 1, 1) := by decide +kernel
theorem dX0_init_35 : decode cX0_init 35 = .ok (.putfield 25, 3) := by decide +kernel
theorem dX0_init_38 : decode cX0_init 38 = .ok (.aload_n 0, 1) := by decide +kernel
theorem dX0_init_39 : decode cX0_init 39 = .ok (.getfield 18, 3) := by decide +kernel
theorem dX0_init_42 : decode cX0_init 42 = .ok (.iconst (-1), 1) := by decide +kernel
theorem dX0_init_43 : decode cX0_init 43 = .ok (.invokestatic 29, 3) := by decide +kernel
theorem dX0_init_46 : decode cX0_init 46 = .ok (.return_, 1) := by decide +kernel
theorem dX0_become_0 : decode cX0_become 0 = .ok (.aload_n 1, 1) := by decide +kernel
theorem dX0_become_1 : decode cX0_become 1 = .ok (.getfield 9, 3) := by decide +kernel
theorem dX0_become_4 : decode cX0_become 4 = .ok (.iconst 0, 1) := by decide +kernel
theorem dX0_become_5 : decode cX0_become 5 = .ok (.aload_n 0, 1) := by decide +kernel
theorem dX0_become_6 : decode cX0_become 6 = .ok (.getfield 9, 3) := by decide +kernel
theorem dX0_become_9 : decode cX0_become 9 = .ok (.iconst 0, 1) := by decide +kernel
theorem dX0_become_10 : decode cX0_become 10 = .ok (.bipush 10, 2) := by decide +kernel
theorem dX0_become_12 : decode cX0_become 12 = .ok (.invokestatic 35, 3) := by decide +kernel
theorem dX0_become_15 : decode cX0_become 15 = .ok (.aload_n 1, 1) := by decide +kernel
theorem dX0_become_16 : decode cX0_become 16 = .ok (.getfield 15, 3) := by decide +kernel
theorem dX0_become_19 : decode cX0_become 19 = .ok (.iconst 0, 1) := by decide +kernel
theorem dX0_become_20 : decode cX0_become 20 = .ok (.aload_n 0, 1) := by decide +kernel
theorem dX0_become_21 : decode cX0_become 21 = .ok (.getfield 15, 3) := by decide +kernel
theorem dX0_become_24 : decode cX0_become 24 = .ok (.iconst 0, 1) := by decide +kernel
theorem dX0_become_25 : decode cX0_become 25 = .ok (.bipush 10, 2) := by decide +kernel
theorem dX0_become_27 : decode cX0_become 27 = .ok (.invokestatic 35, 3) := by decide +kernel
theorem dX0_become_30 : decode cX0_become 30 = .ok (.aload_n 1, 1) := by decide +kernel
theorem dX0_become_31 : decode cX0_become 31 = .ok (.getfield 18, 3) := by decide +kernel
theorem dX0_become_34 : decode cX0_become 34 = .ok (.iconst 0, 1) := by decide +kernel
theorem dX0_become_35 : decode cX0_become 35 = .ok (.aload_n 0, 1) := by decide +kernel
theorem dX0_become_36 : decode cX0_become 36 = .ok (.getfield 18, 3) := by decide +kernel
theorem dX0_become_39 : decode cX0_become 39 = .ok (.iconst 0, 1) := by decide +kernel
theorem dX0_become_40 : decode cX0_become 40 = .ok (.bipush 10, 2) := by decide +kernel
theorem dX0_become_42 : decode cX0_become 42 = .ok (.invokestatic 35, 3) := by decide +kernel
theorem dX0_become_45 : decode cX0_become 45 = .ok (.aload_n 0, 1) := by decide +kernel
theorem dX0_become_46 : decode cX0_become 46 = .ok (.aload_n 1, 1) := by decide +kernel
theorem dX0_become_47 : decode cX0_become 47 = .ok (.getfield 41, 3) := by decide +kernel
theorem dX0_become_50 : decode cX0_become 50 = .ok (.putfield 41, 3) := by decide +kernel
theorem dX0_become_53 : decode cX0_become 53 = .ok (.aload_n 0, 1) := by decide +kernel
theorem dX0_become_54 : decode cX0_become 54 = .ok (.aload_n 1, 1) := by decide +kernel
theorem dX0_become_55 : decode cX0_become 55 = .ok (.getfield 44, 3) := by decide +kernel
theorem dX0_become_58 : decode cX0_become 58 = .ok (.putfield 44, 3) := by decide +kernel
theorem dX0_become_61 : decode cX0_become 61 = .ok (.aload_n 0, 1) := by decide +kernel
theorem dX0_become_62 : decode cX0_become 62 = .ok (.aload_n 1, 1) := by decide +kernel
theorem dX0_become_63 : decode cX0_become 63 = .ok (.getfield 47, 3) := by decide +kernel
theorem dX0_become_66 : decode cX0_become 66 = .ok (.putfield 47, 3) := by decide +kernel
theorem dX0_become_69 : decode cX0_become 69 = .ok (.aload_n 0, 1) := by decide +kernel
theorem dX0_become_70 : decode cX0_become 70 = .ok (.aload_n 1, 1) := by decide +kernel
theorem dX0_become_71 : decode cX0_become 71 = .ok (.getfield 50, 3) := by decide +kernel
theorem dX0_become_74 : decode cX0_become 74 = .ok (.putfield 50, 3) := by decide +kernel
theorem dX0_become_77 : decode cX0_become 77 = .ok (.aload_n 0, 1) := by decide +kernel
theorem dX0_become_78 : decode cX0_become 78 = .ok (.aload_n 1, 1) := by decide +kernel
theorem dX0_become_79 : decode cX0_become 79 = .ok (.getfield 21, 3) := by decide +kernel
theorem dX0_become_82 : decode cX0_become 82 = .ok (.putfield 21, 3) := by decide +kernel
theorem dX0_become_85 : decode cX0_become 85 = .ok (.aload_n 0, 1) := by decide +kernel
theorem dX0_become_86 : decode cX0_become 86 = .ok (.aload_n 1, 1) := by decide +kernel
theorem dX0_become_87 : decode cX0_become 87 = .ok (.getfield 53, 3) := by decide +kernel
theorem dX0_become_90 : decode cX0_become 90 = .ok (.putfield 53, 3) := by decide +kernel
theorem dX0_become_93 : decode cX0_become 93 = .ok (.aload_n 0, 1) := by decide +kernel
theorem dX0_become_94 : decode cX0_become 94 = .ok (.aload_n 1, 1) := by decide +kernel
theorem dX0_become_95 : decode cX0_become 95 = .ok (.getfield 25, 3) := by decide +kernel
theorem dX0_become_98 : decode cX0_become 98 = .ok (.putfield 25, 3) := by decide +kernel
theorem dX0_become_101 : decode cX0_become 101 = .ok (.return_, 1) := by decide +kernel
theorem dX0_has_0 : decode cX0_has 0 = .ok (.iload_n 1, 1) := by decide +kernel
theorem dX0_has_1 : decode cX0_has 1 = .ok (.ifCond .lt 15, 3) := by decide +kernel
theorem dX0_has_4 : decode cX0_has 4 = .ok (.iload_n 1, 1) := by decide +kernel
theorem dX0_has_5 : decode cX0_has 5 = .ok (.aload_n 0, 1) := by decide +kernel
theorem dX0_has_6 : decode cX0_has 6 = .ok (.getfield 41, 3) := by decide +kernel
theorem dX0_has_9 : decode cX0_has 9 = .ok (.if_icmp .ge 7, 3) := by decide +kernel
theorem dX0_has_12 : decode cX0_has 12 = .ok (.iconst 1, 1) := by decide +kernel
theorem dX0_has_13 : decode cX0_has 13 = .ok (.goto 4, 3) := by decide +kernel
theorem dX0_has_16 : decode cX0_has 16 = .ok (.iconst 0, 1) := by decide +kernel
theorem dX0_has_17 : decode cX0_has 17 = .ok (.ireturn, 1) := by decide +kernel
theorem dX0_all_0 : decode cX0_all 0 = .ok (.iconst 1, 1) := by decide +kernel
theorem dX0_all_1 : decode cX0_all 1 = .ok (.aload_n 0, 1) := by decide +kernel
theorem dX0_all_2 : decode cX0_all 2 = .ok (.getfield 41, 3) := by decide +kernel
theorem dX0_all_5 : decode cX0_all 5 = .ok (.ishl, 1) := by decide +kernel
theorem dX0_all_6 : decode cX0_all 6 = .ok (.iconst 1, 1) := by decide +kernel
theorem dX0_all_7 : decode cX0_all 7 = .ok (.isub, 1) := by decide +kernel
theorem dX0_all_8 : decode cX0_all 8 = .ok (.ireturn, 1) := by decide +kernel
set_option maxRecDepth 20000 in
theorem ggX0_isSet_X0_all : GoodIn wsX0_isSet wsX0_all := goodIn_r _ [5, 6, 7, 8, 9, 10, 11, 12, 13, 14, 15, 16] (by decide +kernel) (by decide +kernel)
set_option maxRecDepth 20000 in
theorem gX0_isSet_X0_all : GoodIn wsX0_isSet (wsV RX0 56 RX0 yX0_all wsX0_all) := goodIn_app (goodIn_of _ (by decide +kernel)) ggX0_isSet_X0_all
theorem dX0_isSet_0 : decode cX0_isSet 0 = .ok (.iload_n 1, 1) := by decide +kernel
theorem dX0_isSet_1 : decode cX0_isSet 1 = .ok (.aload_n 0, 1) := by decide +kernel
theorem dX0_isSet_2 : decode cX0_isSet 2 = .ok (.invokevirtual 56, 3) := by decide +kernel
theorem dX0_isSet_5 : decode cX0_isSet 5 = .ok (.iconst (-1), 1) := by decide +kernel
theorem dX0_isSet_6 : decode cX0_isSet 6 = .ok (.ixor, 1) := by decide +kernel
theorem dX0_isSet_7 : decode cX0_isSet 7 = .ok (.iand, 1) := by decide +kernel
theorem dX0_isSet_8 : decode cX0_isSet 8 = .ok (.ifCond .ne 7, 3) := by decide +kernel
theorem dX0_isSet_11 : decode cX0_isSet 11 = .ok (.iconst 1, 1) := by decide +kernel
theorem dX0_isSet_12 : decode cX0_isSet 12 = .ok (.goto 4, 3) := by decide +kernel
theorem dX0_isSet_15 : decode cX0_isSet 15 = .ok (.iconst 0, 1) := by decide +kernel
theorem dX0_isSet_16 : decode cX0_isSet 16 = .ok (.ireturn, 1) := by decide +kernel
set_option maxRecDepth 20000 in
theorem ggX0_vote_J6_bitCount_0f7a4 : GoodIn wsX0_vote wsJ6_bitCount_0f7a4 := goodIn_r _ [5, 6, 7, 8] (by decide +kernel) (by decide +kernel)
set_option maxRecDepth 20000 in
theorem gX0_vote_J6_bitCount_0f7a4 : GoodIn wsX0_vote (va_wsS RX0 60 yJ6_bitCount_0f7a4 wsJ6_bitCount_0f7a4) := goodIn_app (goodIn_of _ (by decide +kernel)) ggX0_vote_J6_bitCount_0f7a4
theorem dX0_vote_0 : decode cX0_vote 0 = .ok (.aload_n 0, 1) := by decide +kernel
theorem dX0_vote_1 : decode cX0_vote 1 = .ok (.getfield 44, 3) := by decide +kernel
theorem dX0_vote_4 : decode cX0_vote 4 = .ok (.invokestatic 60, 3) := by decide +kernel
theorem dX0_vote_7 : decode cX0_vote 7 = .ok (.ireturn, 1) := by decide +kernel
theorem dX0_wordOf_0 : decode cX0_wordOf 0 = .ok (.aload_n 0, 1) := by decide +kernel
theorem dX0_wordOf_1 : decode cX0_wordOf 1 = .ok (.getfield 44, 3) := by decide +kernel
theorem dX0_wordOf_4 : decode cX0_wordOf 4 = .ok (.iload_n 1, 1) := by decide +kernel
theorem dX0_wordOf_5 : decode cX0_wordOf 5 = .ok (.ishr, 1) := by decide +kernel
theorem dX0_wordOf_6 : decode cX0_wordOf 6 = .ok (.iconst 1, 1) := by decide +kernel
theorem dX0_wordOf_7 : decode cX0_wordOf 7 = .ok (.iand, 1) := by decide +kernel
theorem dX0_wordOf_8 : decode cX0_wordOf 8 = .ok (.ireturn, 1) := by decide +kernel
theorem dX0_giveWord_0 : decode cX0_giveWord 0 = .ok (.aload_n 0, 1) := by decide +kernel
theorem dX0_giveWord_1 : decode cX0_giveWord 1 = .ok (.aload_n 0, 1) := by decide +kernel
theorem dX0_giveWord_2 : decode cX0_giveWord 2 = .ok (.getfield 44, 3) := by decide +kernel
theorem dX0_giveWord_5 : decode cX0_giveWord 5 = .ok (.iconst 1, 1) := by decide +kernel
theorem dX0_giveWord_6 : decode cX0_giveWord 6 = .ok (.iload_n 1, 1) := by decide +kernel
theorem dX0_giveWord_7 : decode cX0_giveWord 7 = .ok (.ishl, 1) := by decide +kernel
theorem dX0_giveWord_8 : decode cX0_giveWord 8 = .ok (.iconst (-1), 1) := by decide +kernel
theorem dX0_giveWord_9 : decode cX0_giveWord 9 = .ok (.ixor, 1) := by decide +kernel
theorem dX0_giveWord_10 : decode cX0_giveWord 10 = .ok (.iand, 1) := by decide +kernel
theorem dX0_giveWord_11 : decode cX0_giveWord 11 = .ok (.iload_n 2, 1) := by decide +kernel
theorem dX0_giveWord_12 : decode cX0_giveWord 12 = .ok (.iload_n 1, 1) := by decide +kernel
theorem dX0_giveWord_13 : decode cX0_giveWord 13 = .ok (.ishl, 1) := by decide +kernel
theorem dX0_giveWord_14 : decode cX0_giveWord 14 = .ok (.ior, 1) := by decide +kernel
theorem dX0_giveWord_15 : decode cX0_giveWord 15 = .ok (.putfield 44, 3) := by decide +kernel
theorem dX0_giveWord_18 : decode cX0_giveWord 18 = .ok (.return_, 1) := by decide +kernel
theorem dX0_tentOn_0 : decode cX0_tentOn 0 = .ok (.iconst 0, 1) := by decide +kernel
theorem dX0_tentOn_1 : decode cX0_tentOn 1 = .ok (.istore_n 2, 1) := by decide +kernel
theorem dX0_tentOn_2 : decode cX0_tentOn 2 = .ok (.iload_n 2, 1) := by decide +kernel
theorem dX0_tentOn_3 : decode cX0_tentOn 3 = .ok (.aload_n 0, 1) := by decide +kernel
theorem dX0_tentOn_4 : decode cX0_tentOn 4 = .ok (.getfield 41, 3) := by decide +kernel
theorem dX0_tentOn_7 : decode cX0_tentOn 7 = .ok (.if_icmp .ge 21, 3) := by decide +kernel
theorem dX0_tentOn_10 : decode cX0_tentOn 10 = .ok (.aload_n 0, 1) := by decide +kernel
theorem dX0_tentOn_11 : decode cX0_tentOn 11 = .ok (.getfield 15, 3) := by decide +kernel
theorem dX0_tentOn_14 : decode cX0_tentOn 14 = .ok (.iload_n 2, 1) := by decide +kernel
theorem dX0_tentOn_15 : decode cX0_tentOn 15 = .ok (.iaload, 1) := by decide +kernel
theorem dX0_tentOn_16 : decode cX0_tentOn 16 = .ok (.iload_n 1, 1) := by decide +kernel
theorem dX0_tentOn_17 : decode cX0_tentOn 17 = .ok (.if_icmp .ne 5, 3) := by decide +kernel
theorem dX0_tentOn_20 : decode cX0_tentOn 20 = .ok (.iload_n 2, 1) := by decide +kernel
theorem dX0_tentOn_21 : decode cX0_tentOn 21 = .ok (.ireturn, 1) := by decide +kernel
theorem dX0_tentOn_22 : decode cX0_tentOn 22 = .ok (.iinc 2 1, 3) := by decide +kernel
theorem dX0_tentOn_25 : decode cX0_tentOn 25 = .ok (.goto (-23), 3) := by decide +kernel
theorem dX0_tentOn_28 : decode cX0_tentOn 28 = .ok (.iconst (-1), 1) := by decide +kernel
theorem dX0_tentOn_29 : decode cX0_tentOn 29 = .ok (.ireturn, 1) := by decide +kernel
set_option maxRecDepth 20000 in
theorem ggX0_mayStand_X0_tentOn : GoodIn wsX0_mayStand wsX0_tentOn := goodIn_r _ [5, 6, 7, 8, 9, 10, 11, 12, 13, 14, 15, 16, 17] (by decide +kernel) (by decide +kernel)
set_option maxRecDepth 20000 in
theorem gX0_mayStand_X0_tentOn : GoodIn wsX0_mayStand (wsV RX0 66 RX0 yX0_tentOn wsX0_tentOn) := goodIn_app (goodIn_of _ (by decide +kernel)) ggX0_mayStand_X0_tentOn
theorem dX0_mayStand_0 : decode cX0_mayStand 0 = .ok (.aload_n 0, 1) := by decide +kernel
theorem dX0_mayStand_1 : decode cX0_mayStand 1 = .ok (.iload_n 2, 1) := by decide +kernel
theorem dX0_mayStand_2 : decode cX0_mayStand 2 = .ok (.invokevirtual 66, 3) := by decide +kernel
theorem dX0_mayStand_5 : decode cX0_mayStand 5 = .ok (.istore_n 3, 1) := by decide +kernel
theorem dX0_mayStand_6 : decode cX0_mayStand 6 = .ok (.iload_n 3, 1) := by decide +kernel
theorem dX0_mayStand_7 : decode cX0_mayStand 7 = .ok (.iconst (-1), 1) := by decide +kernel
theorem dX0_mayStand_8 : decode cX0_mayStand 8 = .ok (.if_icmp .eq 8, 3) := by decide +kernel
theorem dX0_mayStand_11 : decode cX0_mayStand 11 = .ok (.iload_n 3, 1) := by decide +kernel
theorem dX0_mayStand_12 : decode cX0_mayStand 12 = .ok (.iload_n 1, 1) := by decide +kernel
theorem dX0_mayStand_13 : decode cX0_mayStand 13 = .ok (.if_icmp .ne 7, 3) := by decide +kernel
theorem dX0_mayStand_16 : decode cX0_mayStand 16 = .ok (.iconst 1, 1) := by decide +kernel
theorem dX0_mayStand_17 : decode cX0_mayStand 17 = .ok (.goto 4, 3) := by decide +kernel
theorem dX0_mayStand_20 : decode cX0_mayStand 20 = .ok (.iconst 0, 1) := by decide +kernel
theorem dX0_mayStand_21 : decode cX0_mayStand 21 = .ok (.ireturn, 1) := by decide +kernel
set_option maxRecDepth 20000 in
theorem ggX0_pitch_X0_giveWord : GoodIn wsX0_pitch wsX0_giveWord := goodIn_r _ [8, 9, 10, 11, 12, 13, 14, 15, 16, 17, 18, 19] (by decide +kernel) (by decide +kernel)
set_option maxRecDepth 20000 in
theorem gX0_pitch_X0_giveWord : GoodIn wsX0_pitch (wsV RX0 69 RX0 yX0_giveWord wsX0_giveWord) := goodIn_app (goodIn_of _ (by decide +kernel)) ggX0_pitch_X0_giveWord
theorem dX0_pitch_0 : decode cX0_pitch 0 = .ok (.aload_n 0, 1) := by decide +kernel
theorem dX0_pitch_1 : decode cX0_pitch 1 = .ok (.getfield 41, 3) := by decide +kernel
theorem dX0_pitch_4 : decode cX0_pitch 4 = .ok (.bipush 10, 2) := by decide +kernel
theorem dX0_pitch_6 : decode cX0_pitch 6 = .ok (.if_icmp .lt 5, 3) := by decide +kernel
theorem dX0_pitch_9 : decode cX0_pitch 9 = .ok (.iconst (-1), 1) := by decide +kernel
theorem dX0_pitch_10 : decode cX0_pitch 10 = .ok (.ireturn, 1) := by decide +kernel
theorem dX0_pitch_11 : decode cX0_pitch 11 = .ok (.aload_n 0, 1) := by decide +kernel
theorem dX0_pitch_12 : decode cX0_pitch 12 = .ok (.getfield 41, 3) := by decide +kernel
theorem dX0_pitch_15 : decode cX0_pitch 15 = .ok (.istore 4, 2) := by decide +kernel
theorem dX0_pitch_17 : decode cX0_pitch 17 = .ok (.aload_n 0, 1) := by decide +kernel
theorem dX0_pitch_18 : decode cX0_pitch 18 = .ok (.dup, 1) := by decide +kernel
theorem dX0_pitch_19 : decode cX0_pitch 19 = .ok (.getfield 41, 3) := by decide +kernel
theorem dX0_pitch_22 : decode cX0_pitch 22 = .ok (.iconst 1, 1) := by decide +kernel
theorem dX0_pitch_23 : decode cX0_pitch 23 = .ok (.iadd, 1) := by decide +kernel
theorem dX0_pitch_24 : decode cX0_pitch 24 = .ok (.putfield 41, 3) := by decide +kernel
theorem dX0_pitch_27 : decode cX0_pitch 27 = .ok (.aload_n 0, 1) := by decide +kernel
theorem dX0_pitch_28 : decode cX0_pitch 28 = .ok (.getfield 9, 3) := by decide +kernel
theorem dX0_pitch_31 : decode cX0_pitch 31 = .ok (.iload 4, 2) := by decide +kernel
theorem dX0_pitch_33 : decode cX0_pitch 33 = .ok (.iload_n 1, 1) := by decide +kernel
theorem dX0_pitch_34 : decode cX0_pitch 34 = .ok (.iastore, 1) := by decide +kernel
theorem dX0_pitch_35 : decode cX0_pitch 35 = .ok (.aload_n 0, 1) := by decide +kernel
theorem dX0_pitch_36 : decode cX0_pitch 36 = .ok (.getfield 15, 3) := by decide +kernel
theorem dX0_pitch_39 : decode cX0_pitch 39 = .ok (.iload 4, 2) := by decide +kernel
theorem dX0_pitch_41 : decode cX0_pitch 41 = .ok (.iload_n 2, 1) := by decide +kernel
theorem dX0_pitch_42 : decode cX0_pitch 42 = .ok (.iastore, 1) := by decide +kernel
theorem dX0_pitch_43 : decode cX0_pitch 43 = .ok (.aload_n 0, 1) := by decide +kernel
theorem dX0_pitch_44 : decode cX0_pitch 44 = .ok (.iload 4, 2) := by decide +kernel
theorem dX0_pitch_46 : decode cX0_pitch 46 = .ok (.iload_n 3, 1) := by decide +kernel
theorem dX0_pitch_47 : decode cX0_pitch 47 = .ok (.invokevirtual 69, 3) := by decide +kernel
theorem dX0_pitch_50 : decode cX0_pitch 50 = .ok (.iload 4, 2) := by decide +kernel
theorem dX0_pitch_52 : decode cX0_pitch 52 = .ok (.ireturn, 1) := by decide +kernel
set_option maxRecDepth 20000 in
theorem ggX0_strike_X0_has : GoodIn wsX0_strike wsX0_has := goodIn_r _ [8, 1, 9, 10, 11, 12, 13, 14, 15, 16, 17, 18] (by decide +kernel) (by decide +kernel)
set_option maxRecDepth 20000 in
theorem gX0_strike_X0_has : GoodIn wsX0_strike (wsV RX0 73 RX0 yX0_has wsX0_has) := goodIn_app (goodIn_of _ (by decide +kernel)) ggX0_strike_X0_has
theorem dX0_strike_0 : decode cX0_strike 0 = .ok (.aload_n 0, 1) := by decide +kernel
theorem dX0_strike_1 : decode cX0_strike 1 = .ok (.iload_n 1, 1) := by decide +kernel
theorem dX0_strike_2 : decode cX0_strike 2 = .ok (.invokevirtual 73, 3) := by decide +kernel
theorem dX0_strike_5 : decode cX0_strike 5 = .ok (.ifCond .ne 4, 3) := by decide +kernel
theorem dX0_strike_8 : decode cX0_strike 8 = .ok (.return_, 1) := by decide +kernel
theorem dX0_strike_9 : decode cX0_strike 9 = .ok (.iload_n 1, 1) := by decide +kernel
theorem dX0_strike_10 : decode cX0_strike 10 = .ok (.istore_n 2, 1) := by decide +kernel
theorem dX0_strike_11 : decode cX0_strike 11 = .ok (.iload_n 2, 1) := by decide +kernel
theorem dX0_strike_12 : decode cX0_strike 12 = .ok (.aload_n 0, 1) := by decide +kernel
theorem dX0_strike_13 : decode cX0_strike 13 = .ok (.getfield 41, 3) := by decide +kernel
theorem dX0_strike_16 : decode cX0_strike 16 = .ok (.iconst 1, 1) := by decide +kernel
theorem dX0_strike_17 : decode cX0_strike 17 = .ok (.isub, 1) := by decide +kernel
theorem dX0_strike_18 : decode cX0_strike 18 = .ok (.if_icmp .ge 37, 3) := by decide +kernel
theorem dX0_strike_21 : decode cX0_strike 21 = .ok (.aload_n 0, 1) := by decide +kernel
theorem dX0_strike_22 : decode cX0_strike 22 = .ok (.getfield 9, 3) := by decide +kernel
theorem dX0_strike_25 : decode cX0_strike 25 = .ok (.iload_n 2, 1) := by decide +kernel
theorem dX0_strike_26 : decode cX0_strike 26 = .ok (.aload_n 0, 1) := by decide +kernel
theorem dX0_strike_27 : decode cX0_strike 27 = .ok (.getfield 9, 3) := by decide +kernel
theorem dX0_strike_30 : decode cX0_strike 30 = .ok (.iload_n 2, 1) := by decide +kernel
theorem dX0_strike_31 : decode cX0_strike 31 = .ok (.iconst 1, 1) := by decide +kernel
theorem dX0_strike_32 : decode cX0_strike 32 = .ok (.iadd, 1) := by decide +kernel
theorem dX0_strike_33 : decode cX0_strike 33 = .ok (.iaload, 1) := by decide +kernel
theorem dX0_strike_34 : decode cX0_strike 34 = .ok (.iastore, 1) := by decide +kernel
theorem dX0_strike_35 : decode cX0_strike 35 = .ok (.aload_n 0, 1) := by decide +kernel
theorem dX0_strike_36 : decode cX0_strike 36 = .ok (.getfield 15, 3) := by decide +kernel
theorem dX0_strike_39 : decode cX0_strike 39 = .ok (.iload_n 2, 1) := by decide +kernel
theorem dX0_strike_40 : decode cX0_strike 40 = .ok (.aload_n 0, 1) := by decide +kernel
theorem dX0_strike_41 : decode cX0_strike 41 = .ok (.getfield 15, 3) := by decide +kernel
theorem dX0_strike_44 : decode cX0_strike 44 = .ok (.iload_n 2, 1) := by decide +kernel
theorem dX0_strike_45 : decode cX0_strike 45 = .ok (.iconst 1, 1) := by decide +kernel
theorem dX0_strike_46 : decode cX0_strike 46 = .ok (.iadd, 1) := by decide +kernel
theorem dX0_strike_47 : decode cX0_strike 47 = .ok (.iaload, 1) := by decide +kernel
theorem dX0_strike_48 : decode cX0_strike 48 = .ok (.iastore, 1) := by decide +kernel
theorem dX0_strike_49 : decode cX0_strike 49 = .ok (.iinc 2 1, 3) := by decide +kernel
theorem dX0_strike_52 : decode cX0_strike 52 = .ok (.goto (-41), 3) := by decide +kernel
theorem dX0_strike_55 : decode cX0_strike 55 = .ok (.aload_n 0, 1) := by decide +kernel
theorem dX0_strike_56 : decode cX0_strike 56 = .ok (.dup, 1) := by decide +kernel
theorem dX0_strike_57 : decode cX0_strike 57 = .ok (.getfield 41, 3) := by decide +kernel
theorem dX0_strike_60 : decode cX0_strike 60 = .ok (.iconst 1, 1) := by decide +kernel
theorem dX0_strike_61 : decode cX0_strike 61 = .ok (.isub, 1) := by decide +kernel
theorem dX0_strike_62 : decode cX0_strike 62 = .ok (.putfield 41, 3) := by decide +kernel
theorem dX0_strike_65 : decode cX0_strike 65 = .ok (.return_, 1) := by decide +kernel
theorem dX0_apart_0 : decode cX0_apart 0 = .ok (.iload_n 1, 1) := by decide +kernel
theorem dX0_apart_1 : decode cX0_apart 1 = .ok (.bipush 12, 2) := by decide +kernel
theorem dX0_apart_3 : decode cX0_apart 3 = .ok (.irem, 1) := by decide +kernel
theorem dX0_apart_4 : decode cX0_apart 4 = .ok (.istore_n 3, 1) := by decide +kernel
theorem dX0_apart_5 : decode cX0_apart 5 = .ok (.iload_n 1, 1) := by decide +kernel
theorem dX0_apart_6 : decode cX0_apart 6 = .ok (.bipush 12, 2) := by decide +kernel
theorem dX0_apart_8 : decode cX0_apart 8 = .ok (.idiv, 1) := by decide +kernel
theorem dX0_apart_9 : decode cX0_apart 9 = .ok (.istore 4, 2) := by decide +kernel
theorem dX0_apart_11 : decode cX0_apart 11 = .ok (.iload_n 2, 1) := by decide +kernel
theorem dX0_apart_12 : decode cX0_apart 12 = .ok (.bipush 12, 2) := by decide +kernel
theorem dX0_apart_14 : decode cX0_apart 14 = .ok (.irem, 1) := by decide +kernel
theorem dX0_apart_15 : decode cX0_apart 15 = .ok (.istore 5, 2) := by decide +kernel
theorem dX0_apart_17 : decode cX0_apart 17 = .ok (.iload_n 2, 1) := by decide +kernel
theorem dX0_apart_18 : decode cX0_apart 18 = .ok (.bipush 12, 2) := by decide +kernel
theorem dX0_apart_20 : decode cX0_apart 20 = .ok (.idiv, 1) := by decide +kernel
theorem dX0_apart_21 : decode cX0_apart 21 = .ok (.istore 6, 2) := by decide +kernel
theorem dX0_apart_23 : decode cX0_apart 23 = .ok (.aload_n 0, 1) := by decide +kernel
theorem dX0_apart_24 : decode cX0_apart 24 = .ok (.getfield 21, 3) := by decide +kernel
theorem dX0_apart_27 : decode cX0_apart 27 = .ok (.ifCond .eq 70, 3) := by decide +kernel
theorem dX0_apart_30 : decode cX0_apart 30 = .ok (.iload_n 3, 1) := by decide +kernel
theorem dX0_apart_31 : decode cX0_apart 31 = .ok (.aload_n 0, 1) := by decide +kernel
theorem dX0_apart_32 : decode cX0_apart 32 = .ok (.getfield 47, 3) := by decide +kernel
theorem dX0_apart_35 : decode cX0_apart 35 = .ok (.if_icmp .ge 7, 3) := by decide +kernel
theorem dX0_apart_38 : decode cX0_apart 38 = .ok (.iconst 1, 1) := by decide +kernel
theorem dX0_apart_39 : decode cX0_apart 39 = .ok (.goto 4, 3) := by decide +kernel
theorem dX0_apart_42 : decode cX0_apart 42 = .ok (.iconst 0, 1) := by decide +kernel
theorem dX0_apart_43 : decode cX0_apart 43 = .ok (.iload 5, 2) := by decide +kernel
theorem dX0_apart_45 : decode cX0_apart 45 = .ok (.aload_n 0, 1) := by decide +kernel
theorem dX0_apart_46 : decode cX0_apart 46 = .ok (.getfield 47, 3) := by decide +kernel
theorem dX0_apart_49 : decode cX0_apart 49 = .ok (.if_icmp .ge 7, 3) := by decide +kernel
theorem dX0_apart_52 : decode cX0_apart 52 = .ok (.iconst 1, 1) := by decide +kernel
theorem dX0_apart_53 : decode cX0_apart 53 = .ok (.goto 4, 3) := by decide +kernel
theorem dX0_apart_56 : decode cX0_apart 56 = .ok (.iconst 0, 1) := by decide +kernel
theorem dX0_apart_57 : decode cX0_apart 57 = .ok (.if_icmp .eq 40, 3) := by decide +kernel
theorem dX0_apart_60 : decode cX0_apart 60 = .ok (.iload_n 3, 1) := by decide +kernel
theorem dX0_apart_61 : decode cX0_apart 61 = .ok (.iload 5, 2) := by decide +kernel
theorem dX0_apart_63 : decode cX0_apart 63 = .ok (.isub, 1) := by decide +kernel
theorem dX0_apart_64 : decode cX0_apart 64 = .ok (.invokestatic 77, 3) := by decide +kernel
theorem dX0_apart_67 : decode cX0_apart 67 = .ok (.iload 4, 2) := by decide +kernel
theorem dX0_apart_69 : decode cX0_apart 69 = .ok (.aload_n 0, 1) := by decide +kernel
theorem dX0_apart_70 : decode cX0_apart 70 = .ok (.getfield 50, 3) := by decide +kernel
theorem dX0_apart_73 : decode cX0_apart 73 = .ok (.isub, 1) := by decide +kernel
theorem dX0_apart_74 : decode cX0_apart 74 = .ok (.invokestatic 77, 3) := by decide +kernel
theorem dX0_apart_77 : decode cX0_apart 77 = .ok (.iadd, 1) := by decide +kernel
theorem dX0_apart_78 : decode cX0_apart 78 = .ok (.iload 6, 2) := by decide +kernel
theorem dX0_apart_80 : decode cX0_apart 80 = .ok (.aload_n 0, 1) := by decide +kernel
theorem dX0_apart_81 : decode cX0_apart 81 = .ok (.getfield 50, 3) := by decide +kernel
theorem dX0_apart_84 : decode cX0_apart 84 = .ok (.isub, 1) := by decide +kernel
theorem dX0_apart_85 : decode cX0_apart 85 = .ok (.invokestatic 77, 3) := by decide +kernel
theorem dX0_apart_88 : decode cX0_apart 88 = .ok (.iadd, 1) := by decide +kernel
theorem dX0_apart_89 : decode cX0_apart 89 = .ok (.istore 7, 2) := by decide +kernel
theorem dX0_apart_91 : decode cX0_apart 91 = .ok (.iload 7, 2) := by decide +kernel
theorem dX0_apart_93 : decode cX0_apart 93 = .ok (.iload 7, 2) := by decide +kernel
theorem dX0_apart_95 : decode cX0_apart 95 = .ok (.imul, 1) := by decide +kernel
theorem dX0_apart_96 : decode cX0_apart 96 = .ok (.ireturn, 1) := by decide +kernel
theorem dX0_apart_97 : decode cX0_apart 97 = .ok (.iload_n 3, 1) := by decide +kernel
theorem dX0_apart_98 : decode cX0_apart 98 = .ok (.iload 5, 2) := by decide +kernel
theorem dX0_apart_100 : decode cX0_apart 100 = .ok (.isub, 1) := by decide +kernel
theorem dX0_apart_101 : decode cX0_apart 101 = .ok (.iload_n 3, 1) := by decide +kernel
theorem dX0_apart_102 : decode cX0_apart 102 = .ok (.iload 5, 2) := by decide +kernel
theorem dX0_apart_104 : decode cX0_apart 104 = .ok (.isub, 1) := by decide +kernel
theorem dX0_apart_105 : decode cX0_apart 105 = .ok (.imul, 1) := by decide +kernel
theorem dX0_apart_106 : decode cX0_apart 106 = .ok (.iload 4, 2) := by decide +kernel
theorem dX0_apart_108 : decode cX0_apart 108 = .ok (.iload 6, 2) := by decide +kernel
theorem dX0_apart_110 : decode cX0_apart 110 = .ok (.isub, 1) := by decide +kernel
theorem dX0_apart_111 : decode cX0_apart 111 = .ok (.iload 4, 2) := by decide +kernel
theorem dX0_apart_113 : decode cX0_apart 113 = .ok (.iload 6, 2) := by decide +kernel
theorem dX0_apart_115 : decode cX0_apart 115 = .ok (.isub, 1) := by decide +kernel
theorem dX0_apart_116 : decode cX0_apart 116 = .ok (.imul, 1) := by decide +kernel
theorem dX0_apart_117 : decode cX0_apart 117 = .ok (.iadd, 1) := by decide +kernel
theorem dX0_apart_118 : decode cX0_apart 118 = .ok (.ireturn, 1) := by decide +kernel
theorem dX0_draw_0 : decode cX0_draw 0 = .ok (.aload_n 0, 1) := by decide +kernel
theorem dX0_draw_1 : decode cX0_draw 1 = .ok (.aload_n 0, 1) := by decide +kernel
theorem dX0_draw_2 : decode cX0_draw 2 = .ok (.getfield 25, 3) := by decide +kernel
theorem dX0_draw_5 : decode cX0_draw 5 = .ok (.ldc 82, 2) := by decide +kernel
theorem dX0_draw_7 : decode cX0_draw 7 = .ok (.imul, 1) := by decide +kernel
theorem dX0_draw_8 : decode cX0_draw 8 = .ok (.sipush 12345, 3) := by decide +kernel
theorem dX0_draw_11 : decode cX0_draw 11 = .ok (.iadd, 1) := by decide +kernel
theorem dX0_draw_12 : decode cX0_draw 12 = .ok (.putfield 25, 3) := by decide +kernel
theorem dX0_draw_15 : decode cX0_draw 15 = .ok (.aload_n 0, 1) := by decide +kernel
theorem dX0_draw_16 : decode cX0_draw 16 = .ok (.getfield 25, 3) := by decide +kernel
theorem dX0_draw_19 : decode cX0_draw 19 = .ok (.bipush 8, 2) := by decide +kernel
theorem dX0_draw_21 : decode cX0_draw 21 = .ok (.iushr, 1) := by decide +kernel
theorem dX0_draw_22 : decode cX0_draw 22 = .ok (.ireturn, 1) := by decide +kernel
set_option maxRecDepth 20000 in
theorem ggX0_stray_X0_draw : GoodIn wsX0_stray wsX0_draw := goodIn_r _ [6, 7, 8, 22, 23, 24, 25, 26, 27, 28, 29, 30, 31] (by decide +kernel) (by decide +kernel)
set_option maxRecDepth 20000 in
theorem gX0_stray_X0_draw : GoodIn wsX0_stray (wsV RX0 83 RX0 yX0_draw wsX0_draw) := goodIn_app (goodIn_of _ (by decide +kernel)) ggX0_stray_X0_draw
set_option maxRecDepth 20000 in
theorem ggX0_stray_X0_has : GoodIn wsX0_stray wsX0_has := goodIn_r _ [12, 13, 22, 23, 24, 25, 26, 27, 28, 29, 30, 31] (by decide +kernel) (by decide +kernel)
set_option maxRecDepth 20000 in
theorem gX0_stray_X0_has : GoodIn wsX0_stray (wsV RX0 73 RX0 yX0_has wsX0_has) := goodIn_app (goodIn_of _ (by decide +kernel)) ggX0_stray_X0_has
set_option maxRecDepth 20000 in
theorem ggX0_stray_X0_mayStand : GoodIn wsX0_stray wsX0_mayStand := goodIn_r _ [17, 18, 19, 20, 5, 21, 13, 1, 22, 23, 24, 25, 26, 27, 28, 29, 30, 31] (by decide +kernel) (by decide +kernel)
set_option maxRecDepth 20000 in
theorem gX0_stray_X0_mayStand : GoodIn wsX0_stray (wsV RX0 86 RX0 yX0_mayStand wsX0_mayStand) := goodIn_app (goodIn_of _ (by decide +kernel)) ggX0_stray_X0_mayStand
theorem dX0_stray_0 : decode cX0_stray 0 = .ok (.aload_n 0, 1) := by decide +kernel
theorem dX0_stray_1 : decode cX0_stray 1 = .ok (.invokevirtual 83, 3) := by decide +kernel
theorem dX0_stray_4 : decode cX0_stray 4 = .ok (.sipush 144, 3) := by decide +kernel
theorem dX0_stray_7 : decode cX0_stray 7 = .ok (.irem, 1) := by decide +kernel
theorem dX0_stray_8 : decode cX0_stray 8 = .ok (.istore_n 2, 1) := by decide +kernel
theorem dX0_stray_9 : decode cX0_stray 9 = .ok (.aload_n 0, 1) := by decide +kernel
theorem dX0_stray_10 : decode cX0_stray 10 = .ok (.iload_n 1, 1) := by decide +kernel
theorem dX0_stray_11 : decode cX0_stray 11 = .ok (.invokevirtual 73, 3) := by decide +kernel
theorem dX0_stray_14 : decode cX0_stray 14 = .ok (.ifCond .eq 19, 3) := by decide +kernel
theorem dX0_stray_17 : decode cX0_stray 17 = .ok (.aload_n 0, 1) := by decide +kernel
theorem dX0_stray_18 : decode cX0_stray 18 = .ok (.iload_n 1, 1) := by decide +kernel
theorem dX0_stray_19 : decode cX0_stray 19 = .ok (.iload_n 2, 1) := by decide +kernel
theorem dX0_stray_20 : decode cX0_stray 20 = .ok (.invokevirtual 86, 3) := by decide +kernel
theorem dX0_stray_23 : decode cX0_stray 23 = .ok (.ifCond .eq 10, 3) := by decide +kernel
theorem dX0_stray_26 : decode cX0_stray 26 = .ok (.aload_n 0, 1) := by decide +kernel
theorem dX0_stray_27 : decode cX0_stray 27 = .ok (.getfield 15, 3) := by decide +kernel
theorem dX0_stray_30 : decode cX0_stray 30 = .ok (.iload_n 1, 1) := by decide +kernel
theorem dX0_stray_31 : decode cX0_stray 31 = .ok (.iload_n 2, 1) := by decide +kernel
theorem dX0_stray_32 : decode cX0_stray 32 = .ok (.iastore, 1) := by decide +kernel
theorem dX0_stray_33 : decode cX0_stray 33 = .ok (.return_, 1) := by decide +kernel
theorem dX0_countHolding_0 : decode cX0_countHolding 0 = .ok (.iconst 0, 1) := by decide +kernel
theorem dX0_countHolding_1 : decode cX0_countHolding 1 = .ok (.istore_n 1, 1) := by decide +kernel
theorem dX0_countHolding_2 : decode cX0_countHolding 2 = .ok (.iconst 0, 1) := by decide +kernel
theorem dX0_countHolding_3 : decode cX0_countHolding 3 = .ok (.istore_n 2, 1) := by decide +kernel
theorem dX0_countHolding_4 : decode cX0_countHolding 4 = .ok (.iload_n 2, 1) := by decide +kernel
theorem dX0_countHolding_5 : decode cX0_countHolding 5 = .ok (.bipush 10, 2) := by decide +kernel
theorem dX0_countHolding_7 : decode cX0_countHolding 7 = .ok (.if_icmp .ge 22, 3) := by decide +kernel
theorem dX0_countHolding_10 : decode cX0_countHolding 10 = .ok (.aload_n 0, 1) := by decide +kernel
theorem dX0_countHolding_11 : decode cX0_countHolding 11 = .ok (.getfield 18, 3) := by decide +kernel
theorem dX0_countHolding_14 : decode cX0_countHolding 14 = .ok (.iload_n 2, 1) := by decide +kernel
theorem dX0_countHolding_15 : decode cX0_countHolding 15 = .ok (.iaload, 1) := by decide +kernel
theorem dX0_countHolding_16 : decode cX0_countHolding 16 = .ok (.iconst (-1), 1) := by decide +kernel
theorem dX0_countHolding_17 : decode cX0_countHolding 17 = .ok (.if_icmp .eq 6, 3) := by decide +kernel
theorem dX0_countHolding_20 : decode cX0_countHolding 20 = .ok (.iinc 1 1, 3) := by decide +kernel
theorem dX0_countHolding_23 : decode cX0_countHolding 23 = .ok (.iinc 2 1, 3) := by decide +kernel
theorem dX0_countHolding_26 : decode cX0_countHolding 26 = .ok (.goto (-22), 3) := by decide +kernel
theorem dX0_countHolding_29 : decode cX0_countHolding 29 = .ok (.iload_n 1, 1) := by decide +kernel
theorem dX0_countHolding_30 : decode cX0_countHolding 30 = .ok (.ireturn, 1) := by decide +kernel
theorem dX1_init_0 : decode cX1_init 0 = .ok (.aload_n 0, 1) := by decide +kernel
theorem dX1_init_1 : decode cX1_init 1 = .ok (.invokespecial 3, 3) := by decide +kernel
theorem dX1_init_4 : decode cX1_init 4 = .ok (.aload_n 0, 1) := by decide +kernel
theorem dX1_init_5 : decode cX1_init 5 = .ok (.bipush 10, 2) := by decide +kernel
theorem dX1_init_7 : decode cX1_init 7 = .ok (.newarray .int, 2) := by decide +kernel
theorem dX1_init_9 : decode cX1_init 9 = .ok (.putfield 9, 3) := by decide +kernel
theorem dX1_init_12 : decode cX1_init 12 = .ok (.aload_n 0, 1) := by decide +kernel
theorem dX1_init_13 : decode cX1_init 13 = .ok (.bipush 10, 2) := by decide +kernel
theorem dX1_init_15 : decode cX1_init 15 = .ok (.newarray .int, 2) := by decide +kernel
theorem dX1_init_17 : decode cX1_init 17 = .ok (.putfield 15, 3) := by decide +kernel
theorem dX1_init_20 : decode cX1_init 20 = .ok (.aload_n 0, 1) := by decide +kernel
theorem dX1_init_21 : decode cX1_init 21 = .ok (.bipush 100, 2) := by decide +kernel
theorem dX1_init_23 : decode cX1_init 23 = .ok (.newarray .int, 2) := by decide +kernel
theorem dX1_init_25 : decode cX1_init 25 = .ok (.putfield 18, 3) := by decide +kernel
theorem dX1_init_28 : decode cX1_init 28 = .ok (.aload_n 0, 1) := by decide +kernel
theorem dX1_init_29 : decode cX1_init 29 = .ok (.aload_n 1, 1) := by decide +kernel
theorem dX1_init_30 : decode cX1_init 30 = .ok (.putfield 21, 3) := by decide +kernel
theorem dX1_init_33 : decode cX1_init 33 = .ok (.return_, 1) := by decide +kernel
set_option maxRecDepth 20000 in
theorem ggX1_listen_X1_measure : GoodIn wsX1_listen wsX1_measure := goodIn_r _ [7, 1, 8, 9, 10, 11, 12, 13, 14, 15, 16, 17, 18, 19, 20, 21, 42, 43, 44, 45, 46, 47, 48, 49, 50, 51, 52, 53, 54, 55] (by decide +kernel) (by decide +kernel)
set_option maxRecDepth 20000 in
theorem gX1_listen_X1_measure : GoodIn wsX1_listen (wsV RX1 31 RX1 yX1_measure wsX1_measure) := goodIn_app (goodIn_of _ (by decide +kernel)) ggX1_listen_X1_measure
set_option maxRecDepth 20000 in
theorem ggX1_listen_X1_hearAll : GoodIn wsX1_listen wsX1_hearAll := goodIn_r _ [25, 1, 2, 26, 27, 28, 29, 30, 6, 31, 32, 9, 33, 34, 35, 36, 37, 38, 39, 40, 41, 42, 43, 44, 45, 46, 47, 48, 49, 50, 51, 52, 53, 54, 55] (by decide +kernel) (by decide +kernel)
set_option maxRecDepth 20000 in
theorem gX1_listen_X1_hearAll : GoodIn wsX1_listen (wsV RX1 35 RX1 yX1_hearAll wsX1_hearAll) := goodIn_app (goodIn_of _ (by decide +kernel)) ggX1_listen_X1_hearAll
theorem dX1_listen_0 : decode cX1_listen 0 = .ok (.iconst 0, 1) := by decide +kernel
theorem dX1_listen_1 : decode cX1_listen 1 = .ok (.istore_n 1, 1) := by decide +kernel
theorem dX1_listen_2 : decode cX1_listen 2 = .ok (.iload_n 1, 1) := by decide +kernel
theorem dX1_listen_3 : decode cX1_listen 3 = .ok (.aload_n 0, 1) := by decide +kernel
theorem dX1_listen_4 : decode cX1_listen 4 = .ok (.getfield 21, 3) := by decide +kernel
theorem dX1_listen_7 : decode cX1_listen 7 = .ok (.getfield 25, 3) := by decide +kernel
theorem dX1_listen_10 : decode cX1_listen 10 = .ok (.if_icmp .ge 15, 3) := by decide +kernel
theorem dX1_listen_13 : decode cX1_listen 13 = .ok (.aload_n 0, 1) := by decide +kernel
theorem dX1_listen_14 : decode cX1_listen 14 = .ok (.iload_n 1, 1) := by decide +kernel
theorem dX1_listen_15 : decode cX1_listen 15 = .ok (.iload_n 1, 1) := by decide +kernel
theorem dX1_listen_16 : decode cX1_listen 16 = .ok (.invokevirtual 31, 3) := by decide +kernel
theorem dX1_listen_19 : decode cX1_listen 19 = .ok (.iinc 1 1, 3) := by decide +kernel
theorem dX1_listen_22 : decode cX1_listen 22 = .ok (.goto (-20), 3) := by decide +kernel
theorem dX1_listen_25 : decode cX1_listen 25 = .ok (.aload_n 0, 1) := by decide +kernel
theorem dX1_listen_26 : decode cX1_listen 26 = .ok (.invokevirtual 35, 3) := by decide +kernel
theorem dX1_listen_29 : decode cX1_listen 29 = .ok (.return_, 1) := by decide +kernel
set_option maxRecDepth 20000 in
theorem ggX1_listenAgain_X0_has : GoodIn wsX1_listenAgain wsX0_has := goodIn_r _ [7, 8, 51, 52, 53, 54, 55, 56, 57, 58, 59, 60] (by decide +kernel) (by decide +kernel)
set_option maxRecDepth 20000 in
theorem gX1_listenAgain_X0_has : GoodIn wsX1_listenAgain (wsV RX1 38 RX0 yX0_has wsX0_has) := goodIn_app (goodIn_of _ (by decide +kernel)) ggX1_listenAgain_X0_has
set_option maxRecDepth 20000 in
theorem ggX1_listenAgain_X1_measure : GoodIn wsX1_listenAgain wsX1_measure := goodIn_r _ [13, 1, 14, 15, 16, 17, 18, 6, 19, 20, 21, 22, 23, 24, 25, 26, 47, 48, 49, 50, 51, 52, 53, 54, 55, 56, 57, 58, 59, 60] (by decide +kernel) (by decide +kernel)
set_option maxRecDepth 20000 in
theorem gX1_listenAgain_X1_measure : GoodIn wsX1_listenAgain (wsV RX1 31 RX1 yX1_measure wsX1_measure) := goodIn_app (goodIn_of _ (by decide +kernel)) ggX1_listenAgain_X1_measure
set_option maxRecDepth 20000 in
theorem ggX1_listenAgain_X1_hearAll : GoodIn wsX1_listenAgain wsX1_hearAll := goodIn_r _ [30, 1, 2, 31, 32, 33, 34, 35, 12, 36, 37, 15, 38, 39, 40, 41, 42, 43, 44, 45, 46, 47, 48, 49, 50, 51, 52, 53, 54, 55, 56, 57, 58, 59, 60] (by decide +kernel) (by decide +kernel)
set_option maxRecDepth 20000 in
theorem gX1_listenAgain_X1_hearAll : GoodIn wsX1_listenAgain (wsV RX1 35 RX1 yX1_hearAll wsX1_hearAll) := goodIn_app (goodIn_of _ (by decide +kernel)) ggX1_listenAgain_X1_hearAll
theorem dX1_listenAgain_0 : decode cX1_listenAgain 0 = .ok (.aload_n 0, 1) := by decide +kernel
theorem dX1_listenAgain_1 : decode cX1_listenAgain 1 = .ok (.getfield 21, 3) := by decide +kernel
theorem dX1_listenAgain_4 : decode cX1_listenAgain 4 = .ok (.iload_n 1, 1) := by decide +kernel
theorem dX1_listenAgain_5 : decode cX1_listenAgain 5 = .ok (.invokevirtual 38, 3) := by decide +kernel
theorem dX1_listenAgain_8 : decode cX1_listenAgain 8 = .ok (.ifCond .eq 19, 3) := by decide +kernel
theorem dX1_listenAgain_11 : decode cX1_listenAgain 11 = .ok (.aload_n 0, 1) := by decide +kernel
theorem dX1_listenAgain_12 : decode cX1_listenAgain 12 = .ok (.iload_n 1, 1) := by decide +kernel
theorem dX1_listenAgain_13 : decode cX1_listenAgain 13 = .ok (.aload_n 0, 1) := by decide +kernel
theorem dX1_listenAgain_14 : decode cX1_listenAgain 14 = .ok (.getfield 21, 3) := by decide +kernel
theorem dX1_listenAgain_17 : decode cX1_listenAgain 17 = .ok (.getfield 25, 3) := by decide +kernel
theorem dX1_listenAgain_20 : decode cX1_listenAgain 20 = .ok (.invokevirtual 31, 3) := by decide +kernel
theorem dX1_listenAgain_23 : decode cX1_listenAgain 23 = .ok (.aload_n 0, 1) := by decide +kernel
theorem dX1_listenAgain_24 : decode cX1_listenAgain 24 = .ok (.invokevirtual 35, 3) := by decide +kernel
theorem dX1_listenAgain_27 : decode cX1_listenAgain 27 = .ok (.return_, 1) := by decide +kernel
set_option maxRecDepth 20000 in
theorem ggX1_measure_X0_apart : GoodIn wsX1_measure wsX0_apart := goodIn_r _ [8, 9, 10, 11, 12, 13, 14, 15, 20, 21, 22, 23, 24, 25, 26, 27, 28, 29] (by decide +kernel) (by decide +kernel)
set_option maxRecDepth 20000 in
theorem gX1_measure_X0_apart : GoodIn wsX1_measure (wsV RX1 45 RX0 yX0_apart wsX0_apart) := goodIn_app (goodIn_of _ (by decide +kernel)) ggX1_measure_X0_apart
theorem dX1_measure_0 : decode cX1_measure 0 = .ok (.iconst 0, 1) := by decide +kernel
theorem dX1_measure_1 : decode cX1_measure 1 = .ok (.istore_n 3, 1) := by decide +kernel
theorem dX1_measure_2 : decode cX1_measure 2 = .ok (.iload_n 3, 1) := by decide +kernel
theorem dX1_measure_3 : decode cX1_measure 3 = .ok (.iload_n 2, 1) := by decide +kernel
theorem dX1_measure_4 : decode cX1_measure 4 = .ok (.if_icmp .ge 62, 3) := by decide +kernel
theorem dX1_measure_7 : decode cX1_measure 7 = .ok (.aload_n 0, 1) := by decide +kernel
theorem dX1_measure_8 : decode cX1_measure 8 = .ok (.getfield 21, 3) := by decide +kernel
theorem dX1_measure_11 : decode cX1_measure 11 = .ok (.aload_n 0, 1) := by decide +kernel
theorem dX1_measure_12 : decode cX1_measure 12 = .ok (.getfield 21, 3) := by decide +kernel
theorem dX1_measure_15 : decode cX1_measure 15 = .ok (.getfield 42, 3) := by decide +kernel
theorem dX1_measure_18 : decode cX1_measure 18 = .ok (.iload_n 1, 1) := by decide +kernel
theorem dX1_measure_19 : decode cX1_measure 19 = .ok (.iaload, 1) := by decide +kernel
theorem dX1_measure_20 : decode cX1_measure 20 = .ok (.aload_n 0, 1) := by decide +kernel
theorem dX1_measure_21 : decode cX1_measure 21 = .ok (.getfield 21, 3) := by decide +kernel
theorem dX1_measure_24 : decode cX1_measure 24 = .ok (.getfield 42, 3) := by decide +kernel
theorem dX1_measure_27 : decode cX1_measure 27 = .ok (.iload_n 3, 1) := by decide +kernel
theorem dX1_measure_28 : decode cX1_measure 28 = .ok (.iaload, 1) := by decide +kernel
theorem dX1_measure_29 : decode cX1_measure 29 = .ok (.invokevirtual 45, 3) := by decide +kernel
theorem dX1_measure_32 : decode cX1_measure 32 = .ok (.istore 4, 2) := by decide +kernel
theorem dX1_measure_34 : decode cX1_measure 34 = .ok (.aload_n 0, 1) := by decide +kernel
theorem dX1_measure_35 : decode cX1_measure 35 = .ok (.getfield 18, 3) := by decide +kernel
theorem dX1_measure_38 : decode cX1_measure 38 = .ok (.bipush 10, 2) := by decide +kernel
theorem dX1_measure_40 : decode cX1_measure 40 = .ok (.iload_n 1, 1) := by decide +kernel
theorem dX1_measure_41 : decode cX1_measure 41 = .ok (.imul, 1) := by decide +kernel
theorem dX1_measure_42 : decode cX1_measure 42 = .ok (.iload_n 3, 1) := by decide +kernel
theorem dX1_measure_43 : decode cX1_measure 43 = .ok (.iadd, 1) := by decide +kernel
theorem dX1_measure_44 : decode cX1_measure 44 = .ok (.iload 4, 2) := by decide +kernel
theorem dX1_measure_46 : decode cX1_measure 46 = .ok (.iastore, 1) := by decide +kernel
theorem dX1_measure_47 : decode cX1_measure 47 = .ok (.aload_n 0, 1) := by decide +kernel
theorem dX1_measure_48 : decode cX1_measure 48 = .ok (.getfield 18, 3) := by decide +kernel
theorem dX1_measure_51 : decode cX1_measure 51 = .ok (.bipush 10, 2) := by decide +kernel
theorem dX1_measure_53 : decode cX1_measure 53 = .ok (.iload_n 3, 1) := by decide +kernel
theorem dX1_measure_54 : decode cX1_measure 54 = .ok (.imul, 1) := by decide +kernel
theorem dX1_measure_55 : decode cX1_measure 55 = .ok (.iload_n 1, 1) := by decide +kernel
theorem dX1_measure_56 : decode cX1_measure 56 = .ok (.iadd, 1) := by decide +kernel
theorem dX1_measure_57 : decode cX1_measure 57 = .ok (.iload 4, 2) := by decide +kernel
theorem dX1_measure_59 : decode cX1_measure 59 = .ok (.iastore, 1) := by decide +kernel
theorem dX1_measure_60 : decode cX1_measure 60 = .ok (.iinc 3 1, 3) := by decide +kernel
theorem dX1_measure_63 : decode cX1_measure 63 = .ok (.goto (-61), 3) := by decide +kernel
theorem dX1_measure_66 : decode cX1_measure 66 = .ok (.return_, 1) := by decide +kernel
set_option maxRecDepth 20000 in
theorem ggX1_hearAll_X1_nearestBelow : GoodIn wsX1_hearAll wsX1_nearestBelow := goodIn_r _ [9, 10, 11, 21, 22, 23, 24] (by decide +kernel) (by decide +kernel)
set_option maxRecDepth 20000 in
theorem gX1_hearAll_X1_nearestBelow : GoodIn wsX1_hearAll (wsV RX1 49 RX1 yX1_nearestBelow wsX1_nearestBelow) := goodIn_app (goodIn_of _ (by decide +kernel)) ggX1_hearAll_X1_nearestBelow
set_option maxRecDepth 20000 in
theorem ggX1_hearAll_X1_whomHeard : GoodIn wsX1_hearAll wsX1_whomHeard := goodIn_r _ [15, 1, 16, 3, 5, 6, 7, 8, 9, 10, 11, 17, 18, 19, 20, 2, 21, 22, 23, 24, 25, 26, 27, 28, 29, 30, 31, 32, 33, 34] (by decide +kernel) (by decide +kernel)
set_option maxRecDepth 20000 in
theorem gX1_hearAll_X1_whomHeard : GoodIn wsX1_hearAll (wsV RX1 52 RX1 yX1_whomHeard wsX1_whomHeard) := goodIn_app (goodIn_of _ (by decide +kernel)) ggX1_hearAll_X1_whomHeard
theorem dX1_hearAll_0 : decode cX1_hearAll 0 = .ok (.iconst 0, 1) := by decide +kernel
theorem dX1_hearAll_1 : decode cX1_hearAll 1 = .ok (.istore_n 1, 1) := by decide +kernel
theorem dX1_hearAll_2 : decode cX1_hearAll 2 = .ok (.iload_n 1, 1) := by decide +kernel
theorem dX1_hearAll_3 : decode cX1_hearAll 3 = .ok (.aload_n 0, 1) := by decide +kernel
theorem dX1_hearAll_4 : decode cX1_hearAll 4 = .ok (.getfield 21, 3) := by decide +kernel
theorem dX1_hearAll_7 : decode cX1_hearAll 7 = .ok (.getfield 25, 3) := by decide +kernel
theorem dX1_hearAll_10 : decode cX1_hearAll 10 = .ok (.if_icmp .ge 38, 3) := by decide +kernel
theorem dX1_hearAll_13 : decode cX1_hearAll 13 = .ok (.aload_n 0, 1) := by decide +kernel
theorem dX1_hearAll_14 : decode cX1_hearAll 14 = .ok (.getfield 15, 3) := by decide +kernel
theorem dX1_hearAll_17 : decode cX1_hearAll 17 = .ok (.iload_n 1, 1) := by decide +kernel
theorem dX1_hearAll_18 : decode cX1_hearAll 18 = .ok (.aload_n 0, 1) := by decide +kernel
theorem dX1_hearAll_19 : decode cX1_hearAll 19 = .ok (.iload_n 1, 1) := by decide +kernel
theorem dX1_hearAll_20 : decode cX1_hearAll 20 = .ok (.aload_n 0, 1) := by decide +kernel
theorem dX1_hearAll_21 : decode cX1_hearAll 21 = .ok (.getfield 21, 3) := by decide +kernel
theorem dX1_hearAll_24 : decode cX1_hearAll 24 = .ok (.getfield 25, 3) := by decide +kernel
theorem dX1_hearAll_27 : decode cX1_hearAll 27 = .ok (.invokevirtual 49, 3) := by decide +kernel
theorem dX1_hearAll_30 : decode cX1_hearAll 30 = .ok (.iastore, 1) := by decide +kernel
theorem dX1_hearAll_31 : decode cX1_hearAll 31 = .ok (.aload_n 0, 1) := by decide +kernel
theorem dX1_hearAll_32 : decode cX1_hearAll 32 = .ok (.getfield 9, 3) := by decide +kernel
theorem dX1_hearAll_35 : decode cX1_hearAll 35 = .ok (.iload_n 1, 1) := by decide +kernel
theorem dX1_hearAll_36 : decode cX1_hearAll 36 = .ok (.aload_n 0, 1) := by decide +kernel
theorem dX1_hearAll_37 : decode cX1_hearAll 37 = .ok (.iload_n 1, 1) := by decide +kernel
theorem dX1_hearAll_38 : decode cX1_hearAll 38 = .ok (.invokevirtual 52, 3) := by decide +kernel
theorem dX1_hearAll_41 : decode cX1_hearAll 41 = .ok (.iastore, 1) := by decide +kernel
theorem dX1_hearAll_42 : decode cX1_hearAll 42 = .ok (.iinc 1 1, 3) := by decide +kernel
theorem dX1_hearAll_45 : decode cX1_hearAll 45 = .ok (.goto (-43), 3) := by decide +kernel
theorem dX1_hearAll_48 : decode cX1_hearAll 48 = .ok (.return_, 1) := by decide +kernel
set_option maxRecDepth 20000 in
theorem ggX1_whomHeard_X1_nearestBelow : GoodIn wsX1_whomHeard wsX1_nearestBelow := goodIn_r _ [8, 9, 10, 16, 17, 18, 19] (by decide +kernel) (by decide +kernel)
set_option maxRecDepth 20000 in
theorem gX1_whomHeard_X1_nearestBelow : GoodIn wsX1_whomHeard (wsV RX1 49 RX1 yX1_nearestBelow wsX1_nearestBelow) := goodIn_app (goodIn_of _ (by decide +kernel)) ggX1_whomHeard_X1_nearestBelow
set_option maxRecDepth 20000 in
theorem ggX1_whomHeard_X1_farthest : GoodIn wsX1_whomHeard wsX1_farthest := goodIn_r _ [14, 1, 15, 10, 16, 17, 18, 19, 20, 21, 22, 23, 24, 25, 26, 27, 28, 29] (by decide +kernel) (by decide +kernel)
set_option maxRecDepth 20000 in
theorem gX1_whomHeard_X1_farthest : GoodIn wsX1_whomHeard (wsV RX1 59 RX1 yX1_farthest wsX1_farthest) := goodIn_app (goodIn_of _ (by decide +kernel)) ggX1_whomHeard_X1_farthest
theorem dX1_whomHeard_0 : decode cX1_whomHeard 0 = .ok (.aload_n 0, 1) := by decide +kernel
theorem dX1_whomHeard_1 : decode cX1_whomHeard 1 = .ok (.getfield 21, 3) := by decide +kernel
theorem dX1_whomHeard_4 : decode cX1_whomHeard 4 = .ok (.getfield 56, 3) := by decide +kernel
theorem dX1_whomHeard_7 : decode cX1_whomHeard 7 = .ok (.iload_n 1, 1) := by decide +kernel
theorem dX1_whomHeard_8 : decode cX1_whomHeard 8 = .ok (.iaload, 1) := by decide +kernel
theorem dX1_whomHeard_9 : decode cX1_whomHeard 9 = .ok (.lookupswitch 48 #[(1, 35), (4, 35), (6, 42)], 35) := by decide +kernel
theorem dX1_whomHeard_44 : decode cX1_whomHeard 44 = .ok (.aload_n 0, 1) := by decide +kernel
theorem dX1_whomHeard_45 : decode cX1_whomHeard 45 = .ok (.iload_n 1, 1) := by decide +kernel
theorem dX1_whomHeard_46 : decode cX1_whomHeard 46 = .ok (.iload_n 1, 1) := by decide +kernel
theorem dX1_whomHeard_47 : decode cX1_whomHeard 47 = .ok (.invokevirtual 49, 3) := by decide +kernel
theorem dX1_whomHeard_50 : decode cX1_whomHeard 50 = .ok (.ireturn, 1) := by decide +kernel
theorem dX1_whomHeard_51 : decode cX1_whomHeard 51 = .ok (.aload_n 0, 1) := by decide +kernel
theorem dX1_whomHeard_52 : decode cX1_whomHeard 52 = .ok (.iload_n 1, 1) := by decide +kernel
theorem dX1_whomHeard_53 : decode cX1_whomHeard 53 = .ok (.invokevirtual 59, 3) := by decide +kernel
theorem dX1_whomHeard_56 : decode cX1_whomHeard 56 = .ok (.ireturn, 1) := by decide +kernel
theorem dX1_whomHeard_57 : decode cX1_whomHeard 57 = .ok (.aload_n 0, 1) := by decide +kernel
theorem dX1_whomHeard_58 : decode cX1_whomHeard 58 = .ok (.getfield 15, 3) := by decide +kernel
theorem dX1_whomHeard_61 : decode cX1_whomHeard 61 = .ok (.iload_n 1, 1) := by decide +kernel
theorem dX1_whomHeard_62 : decode cX1_whomHeard 62 = .ok (.iaload, 1) := by decide +kernel
theorem dX1_whomHeard_63 : decode cX1_whomHeard 63 = .ok (.ireturn, 1) := by decide +kernel
theorem dX1_nearestBelow_0 : decode cX1_nearestBelow 0 = .ok (.iconst (-1), 1) := by decide +kernel
theorem dX1_nearestBelow_1 : decode cX1_nearestBelow 1 = .ok (.istore_n 3, 1) := by decide +kernel
theorem dX1_nearestBelow_2 : decode cX1_nearestBelow 2 = .ok (.ldc 62, 2) := by decide +kernel
theorem dX1_nearestBelow_4 : decode cX1_nearestBelow 4 = .ok (.istore 4, 2) := by decide +kernel
theorem dX1_nearestBelow_6 : decode cX1_nearestBelow 6 = .ok (.iconst 0, 1) := by decide +kernel
theorem dX1_nearestBelow_7 : decode cX1_nearestBelow 7 = .ok (.istore 5, 2) := by decide +kernel
theorem dX1_nearestBelow_9 : decode cX1_nearestBelow 9 = .ok (.iload 5, 2) := by decide +kernel
theorem dX1_nearestBelow_11 : decode cX1_nearestBelow 11 = .ok (.iload_n 2, 1) := by decide +kernel
theorem dX1_nearestBelow_12 : decode cX1_nearestBelow 12 = .ok (.if_icmp .ge 43, 3) := by decide +kernel
theorem dX1_nearestBelow_15 : decode cX1_nearestBelow 15 = .ok (.aload_n 0, 1) := by decide +kernel
theorem dX1_nearestBelow_16 : decode cX1_nearestBelow 16 = .ok (.getfield 18, 3) := by decide +kernel
theorem dX1_nearestBelow_19 : decode cX1_nearestBelow 19 = .ok (.bipush 10, 2) := by decide +kernel
theorem dX1_nearestBelow_21 : decode cX1_nearestBelow 21 = .ok (.iload_n 1, 1) := by decide +kernel
theorem dX1_nearestBelow_22 : decode cX1_nearestBelow 22 = .ok (.imul, 1) := by decide +kernel
theorem dX1_nearestBelow_23 : decode cX1_nearestBelow 23 = .ok (.iload 5, 2) := by decide +kernel
theorem dX1_nearestBelow_25 : decode cX1_nearestBelow 25 = .ok (.iadd, 1) := by decide +kernel
theorem dX1_nearestBelow_26 : decode cX1_nearestBelow 26 = .ok (.iaload, 1) := by decide +kernel
theorem dX1_nearestBelow_27 : decode cX1_nearestBelow 27 = .ok (.istore 6, 2) := by decide +kernel
theorem dX1_nearestBelow_29 : decode cX1_nearestBelow 29 = .ok (.iload 5, 2) := by decide +kernel
theorem dX1_nearestBelow_31 : decode cX1_nearestBelow 31 = .ok (.iload_n 1, 1) := by decide +kernel
theorem dX1_nearestBelow_32 : decode cX1_nearestBelow 32 = .ok (.if_icmp .eq 17, 3) := by decide +kernel
theorem dX1_nearestBelow_35 : decode cX1_nearestBelow 35 = .ok (.iload 6, 2) := by decide +kernel
theorem dX1_nearestBelow_37 : decode cX1_nearestBelow 37 = .ok (.iload 4, 2) := by decide +kernel
theorem dX1_nearestBelow_39 : decode cX1_nearestBelow 39 = .ok (.if_icmp .ge 10, 3) := by decide +kernel
theorem dX1_nearestBelow_42 : decode cX1_nearestBelow 42 = .ok (.iload 5, 2) := by decide +kernel
theorem dX1_nearestBelow_44 : decode cX1_nearestBelow 44 = .ok (.istore_n 3, 1) := by decide +kernel
theorem dX1_nearestBelow_45 : decode cX1_nearestBelow 45 = .ok (.iload 6, 2) := by decide +kernel
theorem dX1_nearestBelow_47 : decode cX1_nearestBelow 47 = .ok (.istore 4, 2) := by decide +kernel
theorem dX1_nearestBelow_49 : decode cX1_nearestBelow 49 = .ok (.iinc 5 1, 3) := by decide +kernel
theorem dX1_nearestBelow_52 : decode cX1_nearestBelow 52 = .ok (.goto (-43), 3) := by decide +kernel
theorem dX1_nearestBelow_55 : decode cX1_nearestBelow 55 = .ok (.iload_n 3, 1) := by decide +kernel
theorem dX1_nearestBelow_56 : decode cX1_nearestBelow 56 = .ok (.ireturn, 1) := by decide +kernel
theorem dX1_farthest_0 : decode cX1_farthest 0 = .ok (.iconst (-1), 1) := by decide +kernel
theorem dX1_farthest_1 : decode cX1_farthest 1 = .ok (.istore_n 2, 1) := by decide +kernel
theorem dX1_farthest_2 : decode cX1_farthest 2 = .ok (.iconst (-1), 1) := by decide +kernel
theorem dX1_farthest_3 : decode cX1_farthest 3 = .ok (.istore_n 3, 1) := by decide +kernel
theorem dX1_farthest_4 : decode cX1_farthest 4 = .ok (.iconst 0, 1) := by decide +kernel
theorem dX1_farthest_5 : decode cX1_farthest 5 = .ok (.istore 4, 2) := by decide +kernel
theorem dX1_farthest_7 : decode cX1_farthest 7 = .ok (.iload 4, 2) := by decide +kernel
theorem dX1_farthest_9 : decode cX1_farthest 9 = .ok (.aload_n 0, 1) := by decide +kernel
theorem dX1_farthest_10 : decode cX1_farthest 10 = .ok (.getfield 21, 3) := by decide +kernel
theorem dX1_farthest_13 : decode cX1_farthest 13 = .ok (.getfield 25, 3) := by decide +kernel
theorem dX1_farthest_16 : decode cX1_farthest 16 = .ok (.if_icmp .ge 41, 3) := by decide +kernel
theorem dX1_farthest_19 : decode cX1_farthest 19 = .ok (.aload_n 0, 1) := by decide +kernel
theorem dX1_farthest_20 : decode cX1_farthest 20 = .ok (.getfield 18, 3) := by decide +kernel
theorem dX1_farthest_23 : decode cX1_farthest 23 = .ok (.bipush 10, 2) := by decide +kernel
theorem dX1_farthest_25 : decode cX1_farthest 25 = .ok (.iload_n 1, 1) := by decide +kernel
theorem dX1_farthest_26 : decode cX1_farthest 26 = .ok (.imul, 1) := by decide +kernel
theorem dX1_farthest_27 : decode cX1_farthest 27 = .ok (.iload 4, 2) := by decide +kernel
theorem dX1_farthest_29 : decode cX1_farthest 29 = .ok (.iadd, 1) := by decide +kernel
theorem dX1_farthest_30 : decode cX1_farthest 30 = .ok (.iaload, 1) := by decide +kernel
theorem dX1_farthest_31 : decode cX1_farthest 31 = .ok (.istore 5, 2) := by decide +kernel
theorem dX1_farthest_33 : decode cX1_farthest 33 = .ok (.iload 4, 2) := by decide +kernel
theorem dX1_farthest_35 : decode cX1_farthest 35 = .ok (.iload_n 1, 1) := by decide +kernel
theorem dX1_farthest_36 : decode cX1_farthest 36 = .ok (.if_icmp .eq 15, 3) := by decide +kernel
theorem dX1_farthest_39 : decode cX1_farthest 39 = .ok (.iload 5, 2) := by decide +kernel
theorem dX1_farthest_41 : decode cX1_farthest 41 = .ok (.iload_n 3, 1) := by decide +kernel
theorem dX1_farthest_42 : decode cX1_farthest 42 = .ok (.if_icmp .le 9, 3) := by decide +kernel
theorem dX1_farthest_45 : decode cX1_farthest 45 = .ok (.iload 4, 2) := by decide +kernel
theorem dX1_farthest_47 : decode cX1_farthest 47 = .ok (.istore_n 2, 1) := by decide +kernel
theorem dX1_farthest_48 : decode cX1_farthest 48 = .ok (.iload 5, 2) := by decide +kernel
theorem dX1_farthest_50 : decode cX1_farthest 50 = .ok (.istore_n 3, 1) := by decide +kernel
theorem dX1_farthest_51 : decode cX1_farthest 51 = .ok (.iinc 4 1, 3) := by decide +kernel
theorem dX1_farthest_54 : decode cX1_farthest 54 = .ok (.goto (-47), 3) := by decide +kernel
theorem dX1_farthest_57 : decode cX1_farthest 57 = .ok (.iload_n 2, 1) := by decide +kernel
theorem dX1_farthest_58 : decode cX1_farthest 58 = .ok (.ireturn, 1) := by decide +kernel
theorem dX1_willSay_0 : decode cX1_willSay 0 = .ok (.iload_n 2, 1) := by decide +kernel
theorem dX1_willSay_1 : decode cX1_willSay 1 = .ok (.iload_n 1, 1) := by decide +kernel
theorem dX1_willSay_2 : decode cX1_willSay 2 = .ok (.ishr, 1) := by decide +kernel
theorem dX1_willSay_3 : decode cX1_willSay 3 = .ok (.iconst 1, 1) := by decide +kernel
theorem dX1_willSay_4 : decode cX1_willSay 4 = .ok (.iand, 1) := by decide +kernel
theorem dX1_willSay_5 : decode cX1_willSay 5 = .ok (.istore_n 3, 1) := by decide +kernel
theorem dX1_willSay_6 : decode cX1_willSay 6 = .ok (.aload_n 0, 1) := by decide +kernel
theorem dX1_willSay_7 : decode cX1_willSay 7 = .ok (.getfield 21, 3) := by decide +kernel
theorem dX1_willSay_10 : decode cX1_willSay 10 = .ok (.getfield 56, 3) := by decide +kernel
theorem dX1_willSay_13 : decode cX1_willSay 13 = .ok (.iload_n 1, 1) := by decide +kernel
theorem dX1_willSay_14 : decode cX1_willSay 14 = .ok (.iaload, 1) := by decide +kernel
theorem dX1_willSay_15 : decode cX1_willSay 15 = .ok (.istore 4, 2) := by decide +kernel
theorem dX1_willSay_17 : decode cX1_willSay 17 = .ok (.iload 4, 2) := by decide +kernel
theorem dX1_willSay_19 : decode cX1_willSay 19 = .ok (.iconst 2, 1) := by decide +kernel
theorem dX1_willSay_20 : decode cX1_willSay 20 = .ok (.if_icmp .ne 5, 3) := by decide +kernel
theorem dX1_willSay_23 : decode cX1_willSay 23 = .ok (.iconst 1, 1) := by decide +kernel
theorem dX1_willSay_24 : decode cX1_willSay 24 = .ok (.ireturn, 1) := by decide +kernel
theorem dX1_willSay_25 : decode cX1_willSay 25 = .ok (.iload 4, 2) := by decide +kernel
theorem dX1_willSay_27 : decode cX1_willSay 27 = .ok (.iconst 3, 1) := by decide +kernel
theorem dX1_willSay_28 : decode cX1_willSay 28 = .ok (.if_icmp .eq 13, 3) := by decide +kernel
theorem dX1_willSay_31 : decode cX1_willSay 31 = .ok (.aload_n 0, 1) := by decide +kernel
theorem dX1_willSay_32 : decode cX1_willSay 32 = .ok (.getfield 9, 3) := by decide +kernel
theorem dX1_willSay_35 : decode cX1_willSay 35 = .ok (.iload_n 1, 1) := by decide +kernel
theorem dX1_willSay_36 : decode cX1_willSay 36 = .ok (.iaload, 1) := by decide +kernel
theorem dX1_willSay_37 : decode cX1_willSay 37 = .ok (.iconst (-1), 1) := by decide +kernel
theorem dX1_willSay_38 : decode cX1_willSay 38 = .ok (.if_icmp .ne 5, 3) := by decide +kernel
theorem dX1_willSay_41 : decode cX1_willSay 41 = .ok (.iload_n 3, 1) := by decide +kernel
theorem dX1_willSay_42 : decode cX1_willSay 42 = .ok (.ireturn, 1) := by decide +kernel
theorem dX1_willSay_43 : decode cX1_willSay 43 = .ok (.iload_n 2, 1) := by decide +kernel
theorem dX1_willSay_44 : decode cX1_willSay 44 = .ok (.aload_n 0, 1) := by decide +kernel
theorem dX1_willSay_45 : decode cX1_willSay 45 = .ok (.getfield 9, 3) := by decide +kernel
theorem dX1_willSay_48 : decode cX1_willSay 48 = .ok (.iload_n 1, 1) := by decide +kernel
theorem dX1_willSay_49 : decode cX1_willSay 49 = .ok (.iaload, 1) := by decide +kernel
theorem dX1_willSay_50 : decode cX1_willSay 50 = .ok (.ishr, 1) := by decide +kernel
theorem dX1_willSay_51 : decode cX1_willSay 51 = .ok (.iconst 1, 1) := by decide +kernel
theorem dX1_willSay_52 : decode cX1_willSay 52 = .ok (.iand, 1) := by decide +kernel
theorem dX1_willSay_53 : decode cX1_willSay 53 = .ok (.istore 5, 2) := by decide +kernel
theorem dX1_willSay_55 : decode cX1_willSay 55 = .ok (.iload 4, 2) := by decide +kernel
theorem dX1_willSay_57 : decode cX1_willSay 57 = .ok (.iconst 5, 1) := by decide +kernel
theorem dX1_willSay_58 : decode cX1_willSay 58 = .ok (.if_icmp .eq 10, 3) := by decide +kernel
theorem dX1_willSay_61 : decode cX1_willSay 61 = .ok (.iload 4, 2) := by decide +kernel
theorem dX1_willSay_63 : decode cX1_willSay 63 = .ok (.bipush 6, 2) := by decide +kernel
theorem dX1_willSay_65 : decode cX1_willSay 65 = .ok (.if_icmp .ne 8, 3) := by decide +kernel
theorem dX1_willSay_68 : decode cX1_willSay 68 = .ok (.iconst 1, 1) := by decide +kernel
theorem dX1_willSay_69 : decode cX1_willSay 69 = .ok (.iload 5, 2) := by decide +kernel
theorem dX1_willSay_71 : decode cX1_willSay 71 = .ok (.isub, 1) := by decide +kernel
theorem dX1_willSay_72 : decode cX1_willSay 72 = .ok (.ireturn, 1) := by decide +kernel
theorem dX1_willSay_73 : decode cX1_willSay 73 = .ok (.iload 4, 2) := by decide +kernel
theorem dX1_willSay_75 : decode cX1_willSay 75 = .ok (.iconst 4, 1) := by decide +kernel
theorem dX1_willSay_76 : decode cX1_willSay 76 = .ok (.if_icmp .ne 30, 3) := by decide +kernel
theorem dX1_willSay_79 : decode cX1_willSay 79 = .ok (.aload_n 0, 1) := by decide +kernel
theorem dX1_willSay_80 : decode cX1_willSay 80 = .ok (.getfield 15, 3) := by decide +kernel
theorem dX1_willSay_83 : decode cX1_willSay 83 = .ok (.iload_n 1, 1) := by decide +kernel
theorem dX1_willSay_84 : decode cX1_willSay 84 = .ok (.iaload, 1) := by decide +kernel
theorem dX1_willSay_85 : decode cX1_willSay 85 = .ok (.iconst (-1), 1) := by decide +kernel
theorem dX1_willSay_86 : decode cX1_willSay 86 = .ok (.if_icmp .eq 20, 3) := by decide +kernel
theorem dX1_willSay_89 : decode cX1_willSay 89 = .ok (.iload_n 2, 1) := by decide +kernel
theorem dX1_willSay_90 : decode cX1_willSay 90 = .ok (.aload_n 0, 1) := by decide +kernel
theorem dX1_willSay_91 : decode cX1_willSay 91 = .ok (.getfield 15, 3) := by decide +kernel
theorem dX1_willSay_94 : decode cX1_willSay 94 = .ok (.iload_n 1, 1) := by decide +kernel
theorem dX1_willSay_95 : decode cX1_willSay 95 = .ok (.iaload, 1) := by decide +kernel
theorem dX1_willSay_96 : decode cX1_willSay 96 = .ok (.ishr, 1) := by decide +kernel
theorem dX1_willSay_97 : decode cX1_willSay 97 = .ok (.iconst 1, 1) := by decide +kernel
theorem dX1_willSay_98 : decode cX1_willSay 98 = .ok (.iand, 1) := by decide +kernel
theorem dX1_willSay_99 : decode cX1_willSay 99 = .ok (.iload 5, 2) := by decide +kernel
theorem dX1_willSay_101 : decode cX1_willSay 101 = .ok (.if_icmp .eq 5, 3) := by decide +kernel
theorem dX1_willSay_104 : decode cX1_willSay 104 = .ok (.iload_n 3, 1) := by decide +kernel
theorem dX1_willSay_105 : decode cX1_willSay 105 = .ok (.ireturn, 1) := by decide +kernel
theorem dX1_willSay_106 : decode cX1_willSay 106 = .ok (.iload 5, 2) := by decide +kernel
theorem dX1_willSay_108 : decode cX1_willSay 108 = .ok (.ireturn, 1) := by decide +kernel
set_option maxRecDepth 20000 in
theorem ggX1_nextSaid_X1_willSay : GoodIn wsX1_nextSaid wsX1_willSay := goodIn_r _ [7, 1, 8, 9, 10, 11, 12, 13, 14, 15, 16, 17, 18, 19, 20, 21, 22, 23, 24] (by decide +kernel) (by decide +kernel)
set_option maxRecDepth 20000 in
theorem gX1_nextSaid_X1_willSay : GoodIn wsX1_nextSaid (wsV RX1 63 RX1 yX1_willSay wsX1_willSay) := goodIn_app (goodIn_of _ (by decide +kernel)) ggX1_nextSaid_X1_willSay
theorem dX1_nextSaid_0 : decode cX1_nextSaid 0 = .ok (.iconst 0, 1) := by decide +kernel
theorem dX1_nextSaid_1 : decode cX1_nextSaid 1 = .ok (.istore_n 2, 1) := by decide +kernel
theorem dX1_nextSaid_2 : decode cX1_nextSaid 2 = .ok (.iconst 0, 1) := by decide +kernel
theorem dX1_nextSaid_3 : decode cX1_nextSaid 3 = .ok (.istore_n 3, 1) := by decide +kernel
theorem dX1_nextSaid_4 : decode cX1_nextSaid 4 = .ok (.iload_n 3, 1) := by decide +kernel
theorem dX1_nextSaid_5 : decode cX1_nextSaid 5 = .ok (.aload_n 0, 1) := by decide +kernel
theorem dX1_nextSaid_6 : decode cX1_nextSaid 6 = .ok (.getfield 21, 3) := by decide +kernel
theorem dX1_nextSaid_9 : decode cX1_nextSaid 9 = .ok (.getfield 25, 3) := by decide +kernel
theorem dX1_nextSaid_12 : decode cX1_nextSaid 12 = .ok (.if_icmp .ge 20, 3) := by decide +kernel
theorem dX1_nextSaid_15 : decode cX1_nextSaid 15 = .ok (.iload_n 2, 1) := by decide +kernel
theorem dX1_nextSaid_16 : decode cX1_nextSaid 16 = .ok (.aload_n 0, 1) := by decide +kernel
theorem dX1_nextSaid_17 : decode cX1_nextSaid 17 = .ok (.iload_n 3, 1) := by decide +kernel
theorem dX1_nextSaid_18 : decode cX1_nextSaid 18 = .ok (.iload_n 1, 1) := by decide +kernel
theorem dX1_nextSaid_19 : decode cX1_nextSaid 19 = .ok (.invokevirtual 63, 3) := by decide +kernel
theorem dX1_nextSaid_22 : decode cX1_nextSaid 22 = .ok (.iload_n 3, 1) := by decide +kernel
theorem dX1_nextSaid_23 : decode cX1_nextSaid 23 = .ok (.ishl, 1) := by decide +kernel
theorem dX1_nextSaid_24 : decode cX1_nextSaid 24 = .ok (.ior, 1) := by decide +kernel
theorem dX1_nextSaid_25 : decode cX1_nextSaid 25 = .ok (.istore_n 2, 1) := by decide +kernel
theorem dX1_nextSaid_26 : decode cX1_nextSaid 26 = .ok (.iinc 3 1, 3) := by decide +kernel
theorem dX1_nextSaid_29 : decode cX1_nextSaid 29 = .ok (.goto (-25), 3) := by decide +kernel
theorem dX1_nextSaid_32 : decode cX1_nextSaid 32 = .ok (.iload_n 2, 1) := by decide +kernel
theorem dX1_nextSaid_33 : decode cX1_nextSaid 33 = .ok (.ireturn, 1) := by decide +kernel
set_option maxRecDepth 20000 in
theorem ggX1_saidAfter_X1_nextSaid : GoodIn wsX1_saidAfter wsX1_nextSaid := goodIn_r _ [5, 6, 7, 8, 9, 10, 4, 11, 12, 13, 14, 15, 16, 17, 18, 19, 20, 21, 22, 23, 24, 25, 26, 27, 28] (by decide +kernel) (by decide +kernel)
set_option maxRecDepth 20000 in
theorem gX1_saidAfter_X1_nextSaid : GoodIn wsX1_saidAfter (wsV RX1 66 RX1 yX1_nextSaid wsX1_nextSaid) := goodIn_app (goodIn_of _ (by decide +kernel)) ggX1_saidAfter_X1_nextSaid
theorem dX1_saidAfter_0 : decode cX1_saidAfter 0 = .ok (.iload_n 1, 1) := by decide +kernel
theorem dX1_saidAfter_1 : decode cX1_saidAfter 1 = .ok (.istore_n 3, 1) := by decide +kernel
theorem dX1_saidAfter_2 : decode cX1_saidAfter 2 = .ok (.iload_n 1, 1) := by decide +kernel
theorem dX1_saidAfter_3 : decode cX1_saidAfter 3 = .ok (.istore 4, 2) := by decide +kernel
theorem dX1_saidAfter_5 : decode cX1_saidAfter 5 = .ok (.iconst 0, 1) := by decide +kernel
theorem dX1_saidAfter_6 : decode cX1_saidAfter 6 = .ok (.istore 5, 2) := by decide +kernel
theorem dX1_saidAfter_8 : decode cX1_saidAfter 8 = .ok (.iconst 1, 1) := by decide +kernel
theorem dX1_saidAfter_9 : decode cX1_saidAfter 9 = .ok (.istore 6, 2) := by decide +kernel
theorem dX1_saidAfter_11 : decode cX1_saidAfter 11 = .ok (.iload_n 2, 1) := by decide +kernel
theorem dX1_saidAfter_12 : decode cX1_saidAfter 12 = .ok (.istore 7, 2) := by decide +kernel
theorem dX1_saidAfter_14 : decode cX1_saidAfter 14 = .ok (.iload 7, 2) := by decide +kernel
theorem dX1_saidAfter_16 : decode cX1_saidAfter 16 = .ok (.ifCond .le 53, 3) := by decide +kernel
theorem dX1_saidAfter_19 : decode cX1_saidAfter 19 = .ok (.aload_n 0, 1) := by decide +kernel
theorem dX1_saidAfter_20 : decode cX1_saidAfter 20 = .ok (.iload_n 3, 1) := by decide +kernel
theorem dX1_saidAfter_21 : decode cX1_saidAfter 21 = .ok (.invokevirtual 66, 3) := by decide +kernel
theorem dX1_saidAfter_24 : decode cX1_saidAfter 24 = .ok (.istore_n 3, 1) := by decide +kernel
theorem dX1_saidAfter_25 : decode cX1_saidAfter 25 = .ok (.iinc 7 (-1), 3) := by decide +kernel
theorem dX1_saidAfter_28 : decode cX1_saidAfter 28 = .ok (.iinc 5 1, 3) := by decide +kernel
theorem dX1_saidAfter_31 : decode cX1_saidAfter 31 = .ok (.iload_n 3, 1) := by decide +kernel
theorem dX1_saidAfter_32 : decode cX1_saidAfter 32 = .ok (.iload 4, 2) := by decide +kernel
theorem dX1_saidAfter_34 : decode cX1_saidAfter 34 = .ok (.if_icmp .ne 13, 3) := by decide +kernel
theorem dX1_saidAfter_37 : decode cX1_saidAfter 37 = .ok (.iload 7, 2) := by decide +kernel
theorem dX1_saidAfter_39 : decode cX1_saidAfter 39 = .ok (.iload 5, 2) := by decide +kernel
theorem dX1_saidAfter_41 : decode cX1_saidAfter 41 = .ok (.irem, 1) := by decide +kernel
theorem dX1_saidAfter_42 : decode cX1_saidAfter 42 = .ok (.istore 7, 2) := by decide +kernel
theorem dX1_saidAfter_44 : decode cX1_saidAfter 44 = .ok (.goto (-30), 3) := by decide +kernel
theorem dX1_saidAfter_47 : decode cX1_saidAfter 47 = .ok (.iload 5, 2) := by decide +kernel
theorem dX1_saidAfter_49 : decode cX1_saidAfter 49 = .ok (.iload 6, 2) := by decide +kernel
theorem dX1_saidAfter_51 : decode cX1_saidAfter 51 = .ok (.if_icmp .lt (-37), 3) := by decide +kernel
theorem dX1_saidAfter_54 : decode cX1_saidAfter 54 = .ok (.iload_n 3, 1) := by decide +kernel
theorem dX1_saidAfter_55 : decode cX1_saidAfter 55 = .ok (.istore 4, 2) := by decide +kernel
theorem dX1_saidAfter_57 : decode cX1_saidAfter 57 = .ok (.iconst 0, 1) := by decide +kernel
theorem dX1_saidAfter_58 : decode cX1_saidAfter 58 = .ok (.istore 5, 2) := by decide +kernel
theorem dX1_saidAfter_60 : decode cX1_saidAfter 60 = .ok (.iload 6, 2) := by decide +kernel
theorem dX1_saidAfter_62 : decode cX1_saidAfter 62 = .ok (.iconst 2, 1) := by decide +kernel
theorem dX1_saidAfter_63 : decode cX1_saidAfter 63 = .ok (.imul, 1) := by decide +kernel
theorem dX1_saidAfter_64 : decode cX1_saidAfter 64 = .ok (.istore 6, 2) := by decide +kernel
theorem dX1_saidAfter_66 : decode cX1_saidAfter 66 = .ok (.goto (-52), 3) := by decide +kernel
theorem dX1_saidAfter_69 : decode cX1_saidAfter 69 = .ok (.iload_n 3, 1) := by decide +kernel
theorem dX1_saidAfter_70 : decode cX1_saidAfter 70 = .ok (.ireturn, 1) := by decide +kernel
theorem dX1_isOfPair_0 : decode cX1_isOfPair 0 = .ok (.aload_n 0, 1) := by decide +kernel
theorem dX1_isOfPair_1 : decode cX1_isOfPair 1 = .ok (.getfield 9, 3) := by decide +kernel
theorem dX1_isOfPair_4 : decode cX1_isOfPair 4 = .ok (.iload_n 1, 1) := by decide +kernel
theorem dX1_isOfPair_5 : decode cX1_isOfPair 5 = .ok (.iaload, 1) := by decide +kernel
theorem dX1_isOfPair_6 : decode cX1_isOfPair 6 = .ok (.istore_n 2, 1) := by decide +kernel
theorem dX1_isOfPair_7 : decode cX1_isOfPair 7 = .ok (.iload_n 2, 1) := by decide +kernel
theorem dX1_isOfPair_8 : decode cX1_isOfPair 8 = .ok (.iconst (-1), 1) := by decide +kernel
theorem dX1_isOfPair_9 : decode cX1_isOfPair 9 = .ok (.if_icmp .eq 17, 3) := by decide +kernel
theorem dX1_isOfPair_12 : decode cX1_isOfPair 12 = .ok (.aload_n 0, 1) := by decide +kernel
theorem dX1_isOfPair_13 : decode cX1_isOfPair 13 = .ok (.getfield 9, 3) := by decide +kernel
theorem dX1_isOfPair_16 : decode cX1_isOfPair 16 = .ok (.iload_n 2, 1) := by decide +kernel
theorem dX1_isOfPair_17 : decode cX1_isOfPair 17 = .ok (.iaload, 1) := by decide +kernel
theorem dX1_isOfPair_18 : decode cX1_isOfPair 18 = .ok (.iload_n 1, 1) := by decide +kernel
theorem dX1_isOfPair_19 : decode cX1_isOfPair 19 = .ok (.if_icmp .ne 7, 3) := by decide +kernel
theorem dX1_isOfPair_22 : decode cX1_isOfPair 22 = .ok (.iconst 1, 1) := by decide +kernel
theorem dX1_isOfPair_23 : decode cX1_isOfPair 23 = .ok (.goto 4, 3) := by decide +kernel
theorem dX1_isOfPair_26 : decode cX1_isOfPair 26 = .ok (.iconst 0, 1) := by decide +kernel
theorem dX1_isOfPair_27 : decode cX1_isOfPair 27 = .ok (.ireturn, 1) := by decide +kernel
set_option maxRecDepth 20000 in
theorem ggX1_ofPairs_X1_isOfPair : GoodIn wsX1_ofPairs wsX1_isOfPair := goodIn_r _ [7, 8, 9, 10, 11, 12] (by decide +kernel) (by decide +kernel)
set_option maxRecDepth 20000 in
theorem gX1_ofPairs_X1_isOfPair : GoodIn wsX1_ofPairs (wsV RX1 69 RX1 yX1_isOfPair wsX1_isOfPair) := goodIn_app (goodIn_of _ (by decide +kernel)) ggX1_ofPairs_X1_isOfPair
theorem dX1_ofPairs_0 : decode cX1_ofPairs 0 = .ok (.iconst 0, 1) := by decide +kernel
theorem dX1_ofPairs_1 : decode cX1_ofPairs 1 = .ok (.istore_n 1, 1) := by decide +kernel
theorem dX1_ofPairs_2 : decode cX1_ofPairs 2 = .ok (.iconst 0, 1) := by decide +kernel
theorem dX1_ofPairs_3 : decode cX1_ofPairs 3 = .ok (.istore_n 2, 1) := by decide +kernel
theorem dX1_ofPairs_4 : decode cX1_ofPairs 4 = .ok (.iload_n 2, 1) := by decide +kernel
theorem dX1_ofPairs_5 : decode cX1_ofPairs 5 = .ok (.aload_n 0, 1) := by decide +kernel
theorem dX1_ofPairs_6 : decode cX1_ofPairs 6 = .ok (.getfield 21, 3) := by decide +kernel
theorem dX1_ofPairs_9 : decode cX1_ofPairs 9 = .ok (.getfield 25, 3) := by decide +kernel
theorem dX1_ofPairs_12 : decode cX1_ofPairs 12 = .ok (.if_icmp .ge 23, 3) := by decide +kernel
theorem dX1_ofPairs_15 : decode cX1_ofPairs 15 = .ok (.aload_n 0, 1) := by decide +kernel
theorem dX1_ofPairs_16 : decode cX1_ofPairs 16 = .ok (.iload_n 2, 1) := by decide +kernel
theorem dX1_ofPairs_17 : decode cX1_ofPairs 17 = .ok (.invokevirtual 69, 3) := by decide +kernel
theorem dX1_ofPairs_20 : decode cX1_ofPairs 20 = .ok (.ifCond .eq 9, 3) := by decide +kernel
theorem dX1_ofPairs_23 : decode cX1_ofPairs 23 = .ok (.iload_n 1, 1) := by decide +kernel
theorem dX1_ofPairs_24 : decode cX1_ofPairs 24 = .ok (.iconst 1, 1) := by decide +kernel
theorem dX1_ofPairs_25 : decode cX1_ofPairs 25 = .ok (.iload_n 2, 1) := by decide +kernel
theorem dX1_ofPairs_26 : decode cX1_ofPairs 26 = .ok (.ishl, 1) := by decide +kernel
theorem dX1_ofPairs_27 : decode cX1_ofPairs 27 = .ok (.ior, 1) := by decide +kernel
theorem dX1_ofPairs_28 : decode cX1_ofPairs 28 = .ok (.istore_n 1, 1) := by decide +kernel
theorem dX1_ofPairs_29 : decode cX1_ofPairs 29 = .ok (.iinc 2 1, 3) := by decide +kernel
theorem dX1_ofPairs_32 : decode cX1_ofPairs 32 = .ok (.goto (-28), 3) := by decide +kernel
theorem dX1_ofPairs_35 : decode cX1_ofPairs 35 = .ok (.iload_n 1, 1) := by decide +kernel
theorem dX1_ofPairs_36 : decode cX1_ofPairs 36 = .ok (.ireturn, 1) := by decide +kernel
set_option maxRecDepth 20000 in
theorem ggX1_countPairs_X1_ofPairs : GoodIn wsX1_countPairs wsX1_ofPairs := goodIn_r _ [5, 6, 7, 8, 9, 10, 4, 11, 12, 20, 21, 22, 23, 24, 25, 26, 27, 28, 29, 30, 31, 32, 33] (by decide +kernel) (by decide +kernel)
set_option maxRecDepth 20000 in
theorem gX1_countPairs_X1_ofPairs : GoodIn wsX1_countPairs (wsV RX1 72 RX1 yX1_ofPairs wsX1_ofPairs) := goodIn_app (goodIn_of _ (by decide +kernel)) ggX1_countPairs_X1_ofPairs
set_option maxRecDepth 20000 in
theorem ggX1_countPairs_J6_bitCount_0f7a4 : GoodIn wsX1_countPairs wsJ6_bitCount_0f7a4 := goodIn_r _ [16, 17, 18, 19] (by decide +kernel) (by decide +kernel)
set_option maxRecDepth 20000 in
theorem gX1_countPairs_J6_bitCount_0f7a4 : GoodIn wsX1_countPairs (va_wsS RX1 76 yJ6_bitCount_0f7a4 wsJ6_bitCount_0f7a4) := goodIn_app (goodIn_of _ (by decide +kernel)) ggX1_countPairs_J6_bitCount_0f7a4
theorem dX1_countPairs_0 : decode cX1_countPairs 0 = .ok (.aload_n 0, 1) := by decide +kernel
theorem dX1_countPairs_1 : decode cX1_countPairs 1 = .ok (.invokevirtual 72, 3) := by decide +kernel
theorem dX1_countPairs_4 : decode cX1_countPairs 4 = .ok (.invokestatic 76, 3) := by decide +kernel
theorem dX1_countPairs_7 : decode cX1_countPairs 7 = .ok (.iconst 2, 1) := by decide +kernel
theorem dX1_countPairs_8 : decode cX1_countPairs 8 = .ok (.idiv, 1) := by decide +kernel
theorem dX1_countPairs_9 : decode cX1_countPairs 9 = .ok (.ireturn, 1) := by decide +kernel
set_option maxRecDepth 20000 in
theorem ggX1_lineOf_X1_isOfPair : GoodIn wsX1_lineOf wsX1_isOfPair := goodIn_r _ [8, 3, 9, 10, 11, 12] (by decide +kernel) (by decide +kernel)
set_option maxRecDepth 20000 in
theorem gX1_lineOf_X1_isOfPair : GoodIn wsX1_lineOf (wsV RX1 69 RX1 yX1_isOfPair wsX1_isOfPair) := goodIn_app (goodIn_of _ (by decide +kernel)) ggX1_lineOf_X1_isOfPair
theorem dX1_lineOf_0 : decode cX1_lineOf 0 = .ok (.iload_n 1, 1) := by decide +kernel
theorem dX1_lineOf_1 : decode cX1_lineOf 1 = .ok (.istore_n 2, 1) := by decide +kernel
theorem dX1_lineOf_2 : decode cX1_lineOf 2 = .ok (.iconst 0, 1) := by decide +kernel
theorem dX1_lineOf_3 : decode cX1_lineOf 3 = .ok (.istore_n 3, 1) := by decide +kernel
theorem dX1_lineOf_4 : decode cX1_lineOf 4 = .ok (.iload_n 3, 1) := by decide +kernel
theorem dX1_lineOf_5 : decode cX1_lineOf 5 = .ok (.aload_n 0, 1) := by decide +kernel
theorem dX1_lineOf_6 : decode cX1_lineOf 6 = .ok (.getfield 21, 3) := by decide +kernel
theorem dX1_lineOf_9 : decode cX1_lineOf 9 = .ok (.getfield 25, 3) := by decide +kernel
theorem dX1_lineOf_12 : decode cX1_lineOf 12 = .ok (.if_icmp .gt 31, 3) := by decide +kernel
theorem dX1_lineOf_15 : decode cX1_lineOf 15 = .ok (.iload_n 2, 1) := by decide +kernel
theorem dX1_lineOf_16 : decode cX1_lineOf 16 = .ok (.iconst (-1), 1) := by decide +kernel
theorem dX1_lineOf_17 : decode cX1_lineOf 17 = .ok (.if_icmp .eq 26, 3) := by decide +kernel
theorem dX1_lineOf_20 : decode cX1_lineOf 20 = .ok (.aload_n 0, 1) := by decide +kernel
theorem dX1_lineOf_21 : decode cX1_lineOf 21 = .ok (.iload_n 2, 1) := by decide +kernel
theorem dX1_lineOf_22 : decode cX1_lineOf 22 = .ok (.invokevirtual 69, 3) := by decide +kernel
theorem dX1_lineOf_25 : decode cX1_lineOf 25 = .ok (.ifCond .eq 5, 3) := by decide +kernel
theorem dX1_lineOf_28 : decode cX1_lineOf 28 = .ok (.iload_n 3, 1) := by decide +kernel
theorem dX1_lineOf_29 : decode cX1_lineOf 29 = .ok (.ireturn, 1) := by decide +kernel
theorem dX1_lineOf_30 : decode cX1_lineOf 30 = .ok (.aload_n 0, 1) := by decide +kernel
theorem dX1_lineOf_31 : decode cX1_lineOf 31 = .ok (.getfield 9, 3) := by decide +kernel
theorem dX1_lineOf_34 : decode cX1_lineOf 34 = .ok (.iload_n 2, 1) := by decide +kernel
theorem dX1_lineOf_35 : decode cX1_lineOf 35 = .ok (.iaload, 1) := by decide +kernel
theorem dX1_lineOf_36 : decode cX1_lineOf 36 = .ok (.istore_n 2, 1) := by decide +kernel
theorem dX1_lineOf_37 : decode cX1_lineOf 37 = .ok (.iinc 3 1, 3) := by decide +kernel
theorem dX1_lineOf_40 : decode cX1_lineOf 40 = .ok (.goto (-36), 3) := by decide +kernel
theorem dX1_lineOf_43 : decode cX1_lineOf 43 = .ok (.iconst (-1), 1) := by decide +kernel
theorem dX1_lineOf_44 : decode cX1_lineOf 44 = .ok (.ireturn, 1) := by decide +kernel
set_option maxRecDepth 20000 in
theorem ggX1_longestLine_X1_lineOf : GoodIn wsX1_longestLine wsX1_lineOf := goodIn_r _ [11, 1, 2, 12, 13, 14, 15, 10, 16, 17, 18, 19, 20, 21, 22, 23, 24, 25, 26, 27, 28, 29, 30] (by decide +kernel) (by decide +kernel)
set_option maxRecDepth 20000 in
theorem gX1_longestLine_X1_lineOf : GoodIn wsX1_longestLine (wsV RX1 81 RX1 yX1_lineOf wsX1_lineOf) := goodIn_app (goodIn_of _ (by decide +kernel)) ggX1_longestLine_X1_lineOf
theorem dX1_longestLine_0 : decode cX1_longestLine 0 = .ok (.iconst (-1), 1) := by decide +kernel
theorem dX1_longestLine_1 : decode cX1_longestLine 1 = .ok (.istore_n 1, 1) := by decide +kernel
theorem dX1_longestLine_2 : decode cX1_longestLine 2 = .ok (.iconst 0, 1) := by decide +kernel
theorem dX1_longestLine_3 : decode cX1_longestLine 3 = .ok (.istore_n 2, 1) := by decide +kernel
theorem dX1_longestLine_4 : decode cX1_longestLine 4 = .ok (.iload_n 2, 1) := by decide +kernel
theorem dX1_longestLine_5 : decode cX1_longestLine 5 = .ok (.aload_n 0, 1) := by decide +kernel
theorem dX1_longestLine_6 : decode cX1_longestLine 6 = .ok (.getfield 21, 3) := by decide +kernel
theorem dX1_longestLine_9 : decode cX1_longestLine 9 = .ok (.getfield 25, 3) := by decide +kernel
theorem dX1_longestLine_12 : decode cX1_longestLine 12 = .ok (.if_icmp .ge 19, 3) := by decide +kernel
theorem dX1_longestLine_15 : decode cX1_longestLine 15 = .ok (.iload_n 1, 1) := by decide +kernel
theorem dX1_longestLine_16 : decode cX1_longestLine 16 = .ok (.aload_n 0, 1) := by decide +kernel
theorem dX1_longestLine_17 : decode cX1_longestLine 17 = .ok (.iload_n 2, 1) := by decide +kernel
theorem dX1_longestLine_18 : decode cX1_longestLine 18 = .ok (.invokevirtual 81, 3) := by decide +kernel
theorem dX1_longestLine_21 : decode cX1_longestLine 21 = .ok (.invokestatic 84, 3) := by decide +kernel
theorem dX1_longestLine_24 : decode cX1_longestLine 24 = .ok (.istore_n 1, 1) := by decide +kernel
theorem dX1_longestLine_25 : decode cX1_longestLine 25 = .ok (.iinc 2 1, 3) := by decide +kernel
theorem dX1_longestLine_28 : decode cX1_longestLine 28 = .ok (.goto (-24), 3) := by decide +kernel
theorem dX1_longestLine_31 : decode cX1_longestLine 31 = .ok (.iload_n 1, 1) := by decide +kernel
theorem dX1_longestLine_32 : decode cX1_longestLine 32 = .ok (.ireturn, 1) := by decide +kernel
set_option maxRecDepth 20000 in
theorem ggX1_countLined_X1_lineOf : GoodIn wsX1_countLined wsX1_lineOf := goodIn_r _ [7, 1, 2, 8, 9, 10, 11, 6, 12, 13, 14, 15, 16, 17, 18, 19, 20, 21, 22, 23, 24, 25, 26] (by decide +kernel) (by decide +kernel)
set_option maxRecDepth 20000 in
theorem gX1_countLined_X1_lineOf : GoodIn wsX1_countLined (wsV RX1 81 RX1 yX1_lineOf wsX1_lineOf) := goodIn_app (goodIn_of _ (by decide +kernel)) ggX1_countLined_X1_lineOf
theorem dX1_countLined_0 : decode cX1_countLined 0 = .ok (.iconst 0, 1) := by decide +kernel
theorem dX1_countLined_1 : decode cX1_countLined 1 = .ok (.istore_n 1, 1) := by decide +kernel
theorem dX1_countLined_2 : decode cX1_countLined 2 = .ok (.iconst 0, 1) := by decide +kernel
theorem dX1_countLined_3 : decode cX1_countLined 3 = .ok (.istore_n 2, 1) := by decide +kernel
theorem dX1_countLined_4 : decode cX1_countLined 4 = .ok (.iload_n 2, 1) := by decide +kernel
theorem dX1_countLined_5 : decode cX1_countLined 5 = .ok (.aload_n 0, 1) := by decide +kernel
theorem dX1_countLined_6 : decode cX1_countLined 6 = .ok (.getfield 21, 3) := by decide +kernel
theorem dX1_countLined_9 : decode cX1_countLined 9 = .ok (.getfield 25, 3) := by decide +kernel
theorem dX1_countLined_12 : decode cX1_countLined 12 = .ok (.if_icmp .ge 20, 3) := by decide +kernel
theorem dX1_countLined_15 : decode cX1_countLined 15 = .ok (.aload_n 0, 1) := by decide +kernel
theorem dX1_countLined_16 : decode cX1_countLined 16 = .ok (.iload_n 2, 1) := by decide +kernel
theorem dX1_countLined_17 : decode cX1_countLined 17 = .ok (.invokevirtual 81, 3) := by decide +kernel
theorem dX1_countLined_20 : decode cX1_countLined 20 = .ok (.ifCond .lt 6, 3) := by decide +kernel
theorem dX1_countLined_23 : decode cX1_countLined 23 = .ok (.iinc 1 1, 3) := by decide +kernel
theorem dX1_countLined_26 : decode cX1_countLined 26 = .ok (.iinc 2 1, 3) := by decide +kernel
theorem dX1_countLined_29 : decode cX1_countLined 29 = .ok (.goto (-25), 3) := by decide +kernel
theorem dX1_countLined_32 : decode cX1_countLined 32 = .ok (.iload_n 1, 1) := by decide +kernel
theorem dX1_countLined_33 : decode cX1_countLined 33 = .ok (.ireturn, 1) := by decide +kernel
theorem dX1_hearersOf_0 : decode cX1_hearersOf 0 = .ok (.iconst 0, 1) := by decide +kernel
theorem dX1_hearersOf_1 : decode cX1_hearersOf 1 = .ok (.istore_n 2, 1) := by decide +kernel
theorem dX1_hearersOf_2 : decode cX1_hearersOf 2 = .ok (.iconst 0, 1) := by decide +kernel
theorem dX1_hearersOf_3 : decode cX1_hearersOf 3 = .ok (.istore_n 3, 1) := by decide +kernel
theorem dX1_hearersOf_4 : decode cX1_hearersOf 4 = .ok (.iload_n 3, 1) := by decide +kernel
theorem dX1_hearersOf_5 : decode cX1_hearersOf 5 = .ok (.aload_n 0, 1) := by decide +kernel
theorem dX1_hearersOf_6 : decode cX1_hearersOf 6 = .ok (.getfield 21, 3) := by decide +kernel
theorem dX1_hearersOf_9 : decode cX1_hearersOf 9 = .ok (.getfield 25, 3) := by decide +kernel
theorem dX1_hearersOf_12 : decode cX1_hearersOf 12 = .ok (.if_icmp .ge 25, 3) := by decide +kernel
theorem dX1_hearersOf_15 : decode cX1_hearersOf 15 = .ok (.aload_n 0, 1) := by decide +kernel
theorem dX1_hearersOf_16 : decode cX1_hearersOf 16 = .ok (.getfield 9, 3) := by decide +kernel
theorem dX1_hearersOf_19 : decode cX1_hearersOf 19 = .ok (.iload_n 3, 1) := by decide +kernel
theorem dX1_hearersOf_20 : decode cX1_hearersOf 20 = .ok (.iaload, 1) := by decide +kernel
theorem dX1_hearersOf_21 : decode cX1_hearersOf 21 = .ok (.iload_n 1, 1) := by decide +kernel
theorem dX1_hearersOf_22 : decode cX1_hearersOf 22 = .ok (.if_icmp .ne 9, 3) := by decide +kernel
theorem dX1_hearersOf_25 : decode cX1_hearersOf 25 = .ok (.iload_n 2, 1) := by decide +kernel
theorem dX1_hearersOf_26 : decode cX1_hearersOf 26 = .ok (.iconst 1, 1) := by decide +kernel
theorem dX1_hearersOf_27 : decode cX1_hearersOf 27 = .ok (.iload_n 3, 1) := by decide +kernel
theorem dX1_hearersOf_28 : decode cX1_hearersOf 28 = .ok (.ishl, 1) := by decide +kernel
theorem dX1_hearersOf_29 : decode cX1_hearersOf 29 = .ok (.ior, 1) := by decide +kernel
theorem dX1_hearersOf_30 : decode cX1_hearersOf 30 = .ok (.istore_n 2, 1) := by decide +kernel
theorem dX1_hearersOf_31 : decode cX1_hearersOf 31 = .ok (.iinc 3 1, 3) := by decide +kernel
theorem dX1_hearersOf_34 : decode cX1_hearersOf 34 = .ok (.goto (-30), 3) := by decide +kernel
theorem dX1_hearersOf_37 : decode cX1_hearersOf 37 = .ok (.iload_n 2, 1) := by decide +kernel
theorem dX1_hearersOf_38 : decode cX1_hearersOf 38 = .ok (.ireturn, 1) := by decide +kernel
set_option maxRecDepth 20000 in
theorem ggX1_unheard_X0_all : GoodIn wsX1_unheard wsX0_all := goodIn_r _ [8, 9, 14, 15, 16, 17, 18, 19, 20, 21, 22, 23] (by decide +kernel) (by decide +kernel)
set_option maxRecDepth 20000 in
theorem gX1_unheard_X0_all : GoodIn wsX1_unheard (wsV RX1 89 RX0 yX0_all wsX0_all) := goodIn_app (goodIn_of _ (by decide +kernel)) ggX1_unheard_X0_all
theorem dX1_unheard_0 : decode cX1_unheard 0 = .ok (.aload_n 0, 1) := by decide +kernel
theorem dX1_unheard_1 : decode cX1_unheard 1 = .ok (.getfield 21, 3) := by decide +kernel
theorem dX1_unheard_4 : decode cX1_unheard 4 = .ok (.invokevirtual 89, 3) := by decide +kernel
theorem dX1_unheard_7 : decode cX1_unheard 7 = .ok (.istore_n 1, 1) := by decide +kernel
theorem dX1_unheard_8 : decode cX1_unheard 8 = .ok (.iconst 0, 1) := by decide +kernel
theorem dX1_unheard_9 : decode cX1_unheard 9 = .ok (.istore_n 2, 1) := by decide +kernel
theorem dX1_unheard_10 : decode cX1_unheard 10 = .ok (.iload_n 2, 1) := by decide +kernel
theorem dX1_unheard_11 : decode cX1_unheard 11 = .ok (.aload_n 0, 1) := by decide +kernel
theorem dX1_unheard_12 : decode cX1_unheard 12 = .ok (.getfield 21, 3) := by decide +kernel
theorem dX1_unheard_15 : decode cX1_unheard 15 = .ok (.getfield 25, 3) := by decide +kernel
theorem dX1_unheard_18 : decode cX1_unheard 18 = .ok (.if_icmp .ge 32, 3) := by decide +kernel
theorem dX1_unheard_21 : decode cX1_unheard 21 = .ok (.aload_n 0, 1) := by decide +kernel
theorem dX1_unheard_22 : decode cX1_unheard 22 = .ok (.getfield 9, 3) := by decide +kernel
theorem dX1_unheard_25 : decode cX1_unheard 25 = .ok (.iload_n 2, 1) := by decide +kernel
theorem dX1_unheard_26 : decode cX1_unheard 26 = .ok (.iaload, 1) := by decide +kernel
theorem dX1_unheard_27 : decode cX1_unheard 27 = .ok (.iconst (-1), 1) := by decide +kernel
theorem dX1_unheard_28 : decode cX1_unheard 28 = .ok (.if_icmp .eq 16, 3) := by decide +kernel
theorem dX1_unheard_31 : decode cX1_unheard 31 = .ok (.iload_n 1, 1) := by decide +kernel
theorem dX1_unheard_32 : decode cX1_unheard 32 = .ok (.iconst 1, 1) := by decide +kernel
theorem dX1_unheard_33 : decode cX1_unheard 33 = .ok (.aload_n 0, 1) := by decide +kernel
theorem dX1_unheard_34 : decode cX1_unheard 34 = .ok (.getfield 9, 3) := by decide +kernel
theorem dX1_unheard_37 : decode cX1_unheard 37 = .ok (.iload_n 2, 1) := by decide +kernel
theorem dX1_unheard_38 : decode cX1_unheard 38 = .ok (.iaload, 1) := by decide +kernel
theorem dX1_unheard_39 : decode cX1_unheard 39 = .ok (.ishl, 1) := by decide +kernel
theorem dX1_unheard_40 : decode cX1_unheard 40 = .ok (.iconst (-1), 1) := by decide +kernel
theorem dX1_unheard_41 : decode cX1_unheard 41 = .ok (.ixor, 1) := by decide +kernel
theorem dX1_unheard_42 : decode cX1_unheard 42 = .ok (.iand, 1) := by decide +kernel
theorem dX1_unheard_43 : decode cX1_unheard 43 = .ok (.istore_n 1, 1) := by decide +kernel
theorem dX1_unheard_44 : decode cX1_unheard 44 = .ok (.iinc 2 1, 3) := by decide +kernel
theorem dX1_unheard_47 : decode cX1_unheard 47 = .ok (.goto (-37), 3) := by decide +kernel
theorem dX1_unheard_50 : decode cX1_unheard 50 = .ok (.iload_n 1, 1) := by decide +kernel
theorem dX1_unheard_51 : decode cX1_unheard 51 = .ok (.ireturn, 1) := by decide +kernel
set_option maxRecDepth 20000 in
theorem ggX1_followersOf_X1_comesTo : GoodIn wsX1_followersOf wsX1_comesTo := goodIn_r _ [7, 8, 1, 2, 9, 10, 11, 12, 13, 14, 15, 16, 17, 18, 19, 20, 21, 22] (by decide +kernel) (by decide +kernel)
set_option maxRecDepth 20000 in
theorem gX1_followersOf_X1_comesTo : GoodIn wsX1_followersOf (wsV RX1 92 RX1 yX1_comesTo wsX1_comesTo) := goodIn_app (goodIn_of _ (by decide +kernel)) ggX1_followersOf_X1_comesTo
theorem dX1_followersOf_0 : decode cX1_followersOf 0 = .ok (.iconst 0, 1) := by decide +kernel
theorem dX1_followersOf_1 : decode cX1_followersOf 1 = .ok (.istore_n 2, 1) := by decide +kernel
theorem dX1_followersOf_2 : decode cX1_followersOf 2 = .ok (.iconst 0, 1) := by decide +kernel
theorem dX1_followersOf_3 : decode cX1_followersOf 3 = .ok (.istore_n 3, 1) := by decide +kernel
theorem dX1_followersOf_4 : decode cX1_followersOf 4 = .ok (.iload_n 3, 1) := by decide +kernel
theorem dX1_followersOf_5 : decode cX1_followersOf 5 = .ok (.aload_n 0, 1) := by decide +kernel
theorem dX1_followersOf_6 : decode cX1_followersOf 6 = .ok (.getfield 21, 3) := by decide +kernel
theorem dX1_followersOf_9 : decode cX1_followersOf 9 = .ok (.getfield 25, 3) := by decide +kernel
theorem dX1_followersOf_12 : decode cX1_followersOf 12 = .ok (.if_icmp .ge 29, 3) := by decide +kernel
theorem dX1_followersOf_15 : decode cX1_followersOf 15 = .ok (.iload_n 3, 1) := by decide +kernel
theorem dX1_followersOf_16 : decode cX1_followersOf 16 = .ok (.iload_n 1, 1) := by decide +kernel
theorem dX1_followersOf_17 : decode cX1_followersOf 17 = .ok (.if_icmp .eq 18, 3) := by decide +kernel
theorem dX1_followersOf_20 : decode cX1_followersOf 20 = .ok (.aload_n 0, 1) := by decide +kernel
theorem dX1_followersOf_21 : decode cX1_followersOf 21 = .ok (.iload_n 3, 1) := by decide +kernel
theorem dX1_followersOf_22 : decode cX1_followersOf 22 = .ok (.iload_n 1, 1) := by decide +kernel
theorem dX1_followersOf_23 : decode cX1_followersOf 23 = .ok (.invokevirtual 92, 3) := by decide +kernel
theorem dX1_followersOf_26 : decode cX1_followersOf 26 = .ok (.ifCond .eq 9, 3) := by decide +kernel
theorem dX1_followersOf_29 : decode cX1_followersOf 29 = .ok (.iload_n 2, 1) := by decide +kernel
theorem dX1_followersOf_30 : decode cX1_followersOf 30 = .ok (.iconst 1, 1) := by decide +kernel
theorem dX1_followersOf_31 : decode cX1_followersOf 31 = .ok (.iload_n 3, 1) := by decide +kernel
theorem dX1_followersOf_32 : decode cX1_followersOf 32 = .ok (.ishl, 1) := by decide +kernel
theorem dX1_followersOf_33 : decode cX1_followersOf 33 = .ok (.ior, 1) := by decide +kernel
theorem dX1_followersOf_34 : decode cX1_followersOf 34 = .ok (.istore_n 2, 1) := by decide +kernel
theorem dX1_followersOf_35 : decode cX1_followersOf 35 = .ok (.iinc 3 1, 3) := by decide +kernel
theorem dX1_followersOf_38 : decode cX1_followersOf 38 = .ok (.goto (-34), 3) := by decide +kernel
theorem dX1_followersOf_41 : decode cX1_followersOf 41 = .ok (.iload_n 2, 1) := by decide +kernel
theorem dX1_followersOf_42 : decode cX1_followersOf 42 = .ok (.ireturn, 1) := by decide +kernel
theorem dX1_comesTo_0 : decode cX1_comesTo 0 = .ok (.aload_n 0, 1) := by decide +kernel
theorem dX1_comesTo_1 : decode cX1_comesTo 1 = .ok (.getfield 9, 3) := by decide +kernel
theorem dX1_comesTo_4 : decode cX1_comesTo 4 = .ok (.iload_n 1, 1) := by decide +kernel
theorem dX1_comesTo_5 : decode cX1_comesTo 5 = .ok (.iaload, 1) := by decide +kernel
theorem dX1_comesTo_6 : decode cX1_comesTo 6 = .ok (.istore_n 3, 1) := by decide +kernel
theorem dX1_comesTo_7 : decode cX1_comesTo 7 = .ok (.iconst 0, 1) := by decide +kernel
theorem dX1_comesTo_8 : decode cX1_comesTo 8 = .ok (.istore 4, 2) := by decide +kernel
theorem dX1_comesTo_10 : decode cX1_comesTo 10 = .ok (.iload 4, 2) := by decide +kernel
theorem dX1_comesTo_12 : decode cX1_comesTo 12 = .ok (.aload_n 0, 1) := by decide +kernel
theorem dX1_comesTo_13 : decode cX1_comesTo 13 = .ok (.getfield 21, 3) := by decide +kernel
theorem dX1_comesTo_16 : decode cX1_comesTo 16 = .ok (.getfield 25, 3) := by decide +kernel
theorem dX1_comesTo_19 : decode cX1_comesTo 19 = .ok (.if_icmp .ge 28, 3) := by decide +kernel
theorem dX1_comesTo_22 : decode cX1_comesTo 22 = .ok (.iload_n 3, 1) := by decide +kernel
theorem dX1_comesTo_23 : decode cX1_comesTo 23 = .ok (.iconst (-1), 1) := by decide +kernel
theorem dX1_comesTo_24 : decode cX1_comesTo 24 = .ok (.if_icmp .eq 23, 3) := by decide +kernel
theorem dX1_comesTo_27 : decode cX1_comesTo 27 = .ok (.iload_n 3, 1) := by decide +kernel
theorem dX1_comesTo_28 : decode cX1_comesTo 28 = .ok (.iload_n 2, 1) := by decide +kernel
theorem dX1_comesTo_29 : decode cX1_comesTo 29 = .ok (.if_icmp .ne 5, 3) := by decide +kernel
theorem dX1_comesTo_32 : decode cX1_comesTo 32 = .ok (.iconst 1, 1) := by decide +kernel
theorem dX1_comesTo_33 : decode cX1_comesTo 33 = .ok (.ireturn, 1) := by decide +kernel
theorem dX1_comesTo_34 : decode cX1_comesTo 34 = .ok (.aload_n 0, 1) := by decide +kernel
theorem dX1_comesTo_35 : decode cX1_comesTo 35 = .ok (.getfield 9, 3) := by decide +kernel
theorem dX1_comesTo_38 : decode cX1_comesTo 38 = .ok (.iload_n 3, 1) := by decide +kernel
theorem dX1_comesTo_39 : decode cX1_comesTo 39 = .ok (.iaload, 1) := by decide +kernel
theorem dX1_comesTo_40 : decode cX1_comesTo 40 = .ok (.istore_n 3, 1) := by decide +kernel
theorem dX1_comesTo_41 : decode cX1_comesTo 41 = .ok (.iinc 4 1, 3) := by decide +kernel
theorem dX1_comesTo_44 : decode cX1_comesTo 44 = .ok (.goto (-34), 3) := by decide +kernel
theorem dX1_comesTo_47 : decode cX1_comesTo 47 = .ok (.iconst 0, 1) := by decide +kernel
theorem dX1_comesTo_48 : decode cX1_comesTo 48 = .ok (.ireturn, 1) := by decide +kernel
set_option maxRecDepth 20000 in
theorem ggX1_mostFollowed_X1_followersOf : GoodIn wsX1_mostFollowed wsX1_followersOf := goodIn_r _ [7, 1, 2, 8, 9, 10, 6, 11, 12, 20, 21, 22, 23, 24, 25, 26, 27, 28, 29, 30, 31, 32, 33] (by decide +kernel) (by decide +kernel)
set_option maxRecDepth 20000 in
theorem gX1_mostFollowed_X1_followersOf : GoodIn wsX1_mostFollowed (wsV RX1 96 RX1 yX1_followersOf wsX1_followersOf) := goodIn_app (goodIn_of _ (by decide +kernel)) ggX1_mostFollowed_X1_followersOf
set_option maxRecDepth 20000 in
theorem ggX1_mostFollowed_J6_bitCount_0f7a4 : GoodIn wsX1_mostFollowed wsJ6_bitCount_0f7a4 := goodIn_r _ [16, 17, 18, 19] (by decide +kernel) (by decide +kernel)
set_option maxRecDepth 20000 in
theorem gX1_mostFollowed_J6_bitCount_0f7a4 : GoodIn wsX1_mostFollowed (va_wsS RX1 76 yJ6_bitCount_0f7a4 wsJ6_bitCount_0f7a4) := goodIn_app (goodIn_of _ (by decide +kernel)) ggX1_mostFollowed_J6_bitCount_0f7a4
theorem dX1_mostFollowed_0 : decode cX1_mostFollowed 0 = .ok (.iconst (-1), 1) := by decide +kernel
theorem dX1_mostFollowed_1 : decode cX1_mostFollowed 1 = .ok (.istore_n 1, 1) := by decide +kernel
theorem dX1_mostFollowed_2 : decode cX1_mostFollowed 2 = .ok (.iconst (-1), 1) := by decide +kernel
theorem dX1_mostFollowed_3 : decode cX1_mostFollowed 3 = .ok (.istore_n 2, 1) := by decide +kernel
theorem dX1_mostFollowed_4 : decode cX1_mostFollowed 4 = .ok (.iconst 0, 1) := by decide +kernel
theorem dX1_mostFollowed_5 : decode cX1_mostFollowed 5 = .ok (.istore_n 3, 1) := by decide +kernel
theorem dX1_mostFollowed_6 : decode cX1_mostFollowed 6 = .ok (.iload_n 3, 1) := by decide +kernel
theorem dX1_mostFollowed_7 : decode cX1_mostFollowed 7 = .ok (.aload_n 0, 1) := by decide +kernel
theorem dX1_mostFollowed_8 : decode cX1_mostFollowed 8 = .ok (.getfield 21, 3) := by decide +kernel
theorem dX1_mostFollowed_11 : decode cX1_mostFollowed 11 = .ok (.getfield 25, 3) := by decide +kernel
theorem dX1_mostFollowed_14 : decode cX1_mostFollowed 14 = .ok (.if_icmp .ge 30, 3) := by decide +kernel
theorem dX1_mostFollowed_17 : decode cX1_mostFollowed 17 = .ok (.aload_n 0, 1) := by decide +kernel
theorem dX1_mostFollowed_18 : decode cX1_mostFollowed 18 = .ok (.iload_n 3, 1) := by decide +kernel
theorem dX1_mostFollowed_19 : decode cX1_mostFollowed 19 = .ok (.invokevirtual 96, 3) := by decide +kernel
theorem dX1_mostFollowed_22 : decode cX1_mostFollowed 22 = .ok (.invokestatic 76, 3) := by decide +kernel
theorem dX1_mostFollowed_25 : decode cX1_mostFollowed 25 = .ok (.istore 4, 2) := by decide +kernel
theorem dX1_mostFollowed_27 : decode cX1_mostFollowed 27 = .ok (.iload 4, 2) := by decide +kernel
theorem dX1_mostFollowed_29 : decode cX1_mostFollowed 29 = .ok (.iload_n 2, 1) := by decide +kernel
theorem dX1_mostFollowed_30 : decode cX1_mostFollowed 30 = .ok (.if_icmp .le 8, 3) := by decide +kernel
theorem dX1_mostFollowed_33 : decode cX1_mostFollowed 33 = .ok (.iload_n 3, 1) := by decide +kernel
theorem dX1_mostFollowed_34 : decode cX1_mostFollowed 34 = .ok (.istore_n 1, 1) := by decide +kernel
theorem dX1_mostFollowed_35 : decode cX1_mostFollowed 35 = .ok (.iload 4, 2) := by decide +kernel
theorem dX1_mostFollowed_37 : decode cX1_mostFollowed 37 = .ok (.istore_n 2, 1) := by decide +kernel
theorem dX1_mostFollowed_38 : decode cX1_mostFollowed 38 = .ok (.iinc 3 1, 3) := by decide +kernel
theorem dX1_mostFollowed_41 : decode cX1_mostFollowed 41 = .ok (.goto (-35), 3) := by decide +kernel
theorem dX1_mostFollowed_44 : decode cX1_mostFollowed 44 = .ok (.iload_n 1, 1) := by decide +kernel
theorem dX1_mostFollowed_45 : decode cX1_mostFollowed 45 = .ok (.ireturn, 1) := by decide +kernel
set_option maxRecDepth 20000 in
theorem ggX1_mostHeard_X1_saidAfter : GoodIn wsX1_mostHeard wsX1_saidAfter := goodIn_r _ [8, 9, 10, 11, 7, 12, 1, 3, 13, 14, 15, 16, 17, 18, 19, 27, 28, 29, 30, 31, 32, 33, 34, 35, 36, 37, 38, 39, 40] (by decide +kernel) (by decide +kernel)
set_option maxRecDepth 20000 in
theorem gX1_mostHeard_X1_saidAfter : GoodIn wsX1_mostHeard (wsV RX1 102 RX1 yX1_saidAfter wsX1_saidAfter) := goodIn_app (goodIn_of _ (by decide +kernel)) ggX1_mostHeard_X1_saidAfter
set_option maxRecDepth 20000 in
theorem ggX1_mostHeard_J6_bitCount_0f7a4 : GoodIn wsX1_mostHeard wsJ6_bitCount_0f7a4 := goodIn_r _ [23, 24, 25, 26] (by decide +kernel) (by decide +kernel)
set_option maxRecDepth 20000 in
theorem gX1_mostHeard_J6_bitCount_0f7a4 : GoodIn wsX1_mostHeard (va_wsS RX1 76 yJ6_bitCount_0f7a4 wsJ6_bitCount_0f7a4) := goodIn_app (goodIn_of _ (by decide +kernel)) ggX1_mostHeard_J6_bitCount_0f7a4
theorem dX1_mostHeard_0 : decode cX1_mostHeard 0 = .ok (.aload_n 0, 1) := by decide +kernel
theorem dX1_mostHeard_1 : decode cX1_mostHeard 1 = .ok (.aload_n 0, 1) := by decide +kernel
theorem dX1_mostHeard_2 : decode cX1_mostHeard 2 = .ok (.getfield 21, 3) := by decide +kernel
theorem dX1_mostHeard_5 : decode cX1_mostHeard 5 = .ok (.getfield 99, 3) := by decide +kernel
theorem dX1_mostHeard_8 : decode cX1_mostHeard 8 = .ok (.iload_n 1, 1) := by decide +kernel
theorem dX1_mostHeard_9 : decode cX1_mostHeard 9 = .ok (.invokevirtual 102, 3) := by decide +kernel
theorem dX1_mostHeard_12 : decode cX1_mostHeard 12 = .ok (.istore_n 2, 1) := by decide +kernel
theorem dX1_mostHeard_13 : decode cX1_mostHeard 13 = .ok (.iconst (-1), 1) := by decide +kernel
theorem dX1_mostHeard_14 : decode cX1_mostHeard 14 = .ok (.istore_n 3, 1) := by decide +kernel
theorem dX1_mostHeard_15 : decode cX1_mostHeard 15 = .ok (.iconst (-1), 1) := by decide +kernel
theorem dX1_mostHeard_16 : decode cX1_mostHeard 16 = .ok (.istore 4, 2) := by decide +kernel
theorem dX1_mostHeard_18 : decode cX1_mostHeard 18 = .ok (.iconst 0, 1) := by decide +kernel
theorem dX1_mostHeard_19 : decode cX1_mostHeard 19 = .ok (.istore 5, 2) := by decide +kernel
theorem dX1_mostHeard_21 : decode cX1_mostHeard 21 = .ok (.iload 5, 2) := by decide +kernel
theorem dX1_mostHeard_23 : decode cX1_mostHeard 23 = .ok (.aload_n 0, 1) := by decide +kernel
theorem dX1_mostHeard_24 : decode cX1_mostHeard 24 = .ok (.getfield 21, 3) := by decide +kernel
theorem dX1_mostHeard_27 : decode cX1_mostHeard 27 = .ok (.getfield 25, 3) := by decide +kernel
theorem dX1_mostHeard_30 : decode cX1_mostHeard 30 = .ok (.if_icmp .ge 58, 3) := by decide +kernel
theorem dX1_mostHeard_33 : decode cX1_mostHeard 33 = .ok (.aload_n 0, 1) := by decide +kernel
theorem dX1_mostHeard_34 : decode cX1_mostHeard 34 = .ok (.aload_n 0, 1) := by decide +kernel
theorem dX1_mostHeard_35 : decode cX1_mostHeard 35 = .ok (.getfield 21, 3) := by decide +kernel
theorem dX1_mostHeard_38 : decode cX1_mostHeard 38 = .ok (.getfield 99, 3) := by decide +kernel
theorem dX1_mostHeard_41 : decode cX1_mostHeard 41 = .ok (.iconst 1, 1) := by decide +kernel
theorem dX1_mostHeard_42 : decode cX1_mostHeard 42 = .ok (.iload 5, 2) := by decide +kernel
theorem dX1_mostHeard_44 : decode cX1_mostHeard 44 = .ok (.ishl, 1) := by decide +kernel
theorem dX1_mostHeard_45 : decode cX1_mostHeard 45 = .ok (.ixor, 1) := by decide +kernel
theorem dX1_mostHeard_46 : decode cX1_mostHeard 46 = .ok (.iload_n 1, 1) := by decide +kernel
theorem dX1_mostHeard_47 : decode cX1_mostHeard 47 = .ok (.invokevirtual 102, 3) := by decide +kernel
theorem dX1_mostHeard_50 : decode cX1_mostHeard 50 = .ok (.istore 6, 2) := by decide +kernel
theorem dX1_mostHeard_52 : decode cX1_mostHeard 52 = .ok (.iload_n 2, 1) := by decide +kernel
theorem dX1_mostHeard_53 : decode cX1_mostHeard 53 = .ok (.iload 6, 2) := by decide +kernel
theorem dX1_mostHeard_55 : decode cX1_mostHeard 55 = .ok (.ixor, 1) := by decide +kernel
theorem dX1_mostHeard_56 : decode cX1_mostHeard 56 = .ok (.iconst 1, 1) := by decide +kernel
theorem dX1_mostHeard_57 : decode cX1_mostHeard 57 = .ok (.iload 5, 2) := by decide +kernel
theorem dX1_mostHeard_59 : decode cX1_mostHeard 59 = .ok (.ishl, 1) := by decide +kernel
theorem dX1_mostHeard_60 : decode cX1_mostHeard 60 = .ok (.iconst (-1), 1) := by decide +kernel
theorem dX1_mostHeard_61 : decode cX1_mostHeard 61 = .ok (.ixor, 1) := by decide +kernel
theorem dX1_mostHeard_62 : decode cX1_mostHeard 62 = .ok (.iand, 1) := by decide +kernel
theorem dX1_mostHeard_63 : decode cX1_mostHeard 63 = .ok (.invokestatic 76, 3) := by decide +kernel
theorem dX1_mostHeard_66 : decode cX1_mostHeard 66 = .ok (.istore 7, 2) := by decide +kernel
theorem dX1_mostHeard_68 : decode cX1_mostHeard 68 = .ok (.iload 7, 2) := by decide +kernel
theorem dX1_mostHeard_70 : decode cX1_mostHeard 70 = .ok (.iload 4, 2) := by decide +kernel
theorem dX1_mostHeard_72 : decode cX1_mostHeard 72 = .ok (.if_icmp .le 10, 3) := by decide +kernel
theorem dX1_mostHeard_75 : decode cX1_mostHeard 75 = .ok (.iload 5, 2) := by decide +kernel
theorem dX1_mostHeard_77 : decode cX1_mostHeard 77 = .ok (.istore_n 3, 1) := by decide +kernel
theorem dX1_mostHeard_78 : decode cX1_mostHeard 78 = .ok (.iload 7, 2) := by decide +kernel
theorem dX1_mostHeard_80 : decode cX1_mostHeard 80 = .ok (.istore 4, 2) := by decide +kernel
theorem dX1_mostHeard_82 : decode cX1_mostHeard 82 = .ok (.iinc 5 1, 3) := by decide +kernel
theorem dX1_mostHeard_85 : decode cX1_mostHeard 85 = .ok (.goto (-64), 3) := by decide +kernel
theorem dX1_mostHeard_88 : decode cX1_mostHeard 88 = .ok (.iload_n 3, 1) := by decide +kernel
theorem dX1_mostHeard_89 : decode cX1_mostHeard 89 = .ok (.ireturn, 1) := by decide +kernel
theorem dX2_init_0 : decode cX2_init 0 = .ok (.aload_n 0, 1) := by decide +kernel
theorem dX2_init_1 : decode cX2_init 1 = .ok (.invokespecial 3, 3) := by decide +kernel
theorem dX2_init_4 : decode cX2_init 4 = .ok (.aload_n 0, 1) := by decide +kernel
theorem dX2_init_5 : decode cX2_init 5 = .ok (.bipush 40, 2) := by decide +kernel
theorem dX2_init_7 : decode cX2_init 7 = .ok (.newarray .int, 2) := by decide +kernel
theorem dX2_init_9 : decode cX2_init 9 = .ok (.putfield 9, 3) := by decide +kernel
theorem dX2_init_12 : decode cX2_init 12 = .ok (.return_, 1) := by decide +kernel
theorem dX2_isMissing_0 : decode cX2_isMissing 0 = .ok (.aload_n 0, 1) := by decide +kernel
theorem dX2_isMissing_1 : decode cX2_isMissing 1 = .ok (.getfield 15, 3) := by decide +kernel
theorem dX2_isMissing_4 : decode cX2_isMissing 4 = .ok (.ifCond .ne 7, 3) := by decide +kernel
theorem dX2_isMissing_7 : decode cX2_isMissing 7 = .ok (.iconst 1, 1) := by decide +kernel
theorem dX2_isMissing_8 : decode cX2_isMissing 8 = .ok (.goto 4, 3) := by decide +kernel
theorem dX2_isMissing_11 : decode cX2_isMissing 11 = .ok (.iconst 0, 1) := by decide +kernel
theorem dX2_isMissing_12 : decode cX2_isMissing 12 = .ok (.ireturn, 1) := by decide +kernel
set_option maxRecDepth 20000 in
theorem ggX2_layOut_J7_fill_53178 : GoodIn wsX2_layOut wsJ7_fill_53178 := goodIn_r _ [7] (by decide +kernel) (by decide +kernel)
set_option maxRecDepth 20000 in
theorem gX2_layOut_J7_fill_53178 : GoodIn wsX2_layOut (va_wsS RX2 22 yJ7_fill_53178 wsJ7_fill_53178) := goodIn_app (goodIn_of _ (by decide +kernel)) ggX2_layOut_J7_fill_53178
theorem dX2_layOut_0 : decode cX2_layOut 0 = .ok (.aload_n 0, 1) := by decide +kernel
theorem dX2_layOut_1 : decode cX2_layOut 1 = .ok (.iload_n 1, 1) := by decide +kernel
theorem dX2_layOut_2 : decode cX2_layOut 2 = .ok (.putfield 15, 3) := by decide +kernel
theorem dX2_layOut_5 : decode cX2_layOut 5 = .ok (.aload_n 0, 1) := by decide +kernel
theorem dX2_layOut_6 : decode cX2_layOut 6 = .ok (.iload_n 1, 1) := by decide +kernel
theorem dX2_layOut_7 : decode cX2_layOut 7 = .ok (.ifCond .ne 7, 3) := by decide +kernel
theorem dX2_layOut_10 : decode cX2_layOut 10 = .ok (.iconst 0, 1) := by decide +kernel
theorem dX2_layOut_11 : decode cX2_layOut 11 = .ok (.goto 4, 3) := by decide +kernel
theorem dX2_layOut_14 : decode cX2_layOut 14 = .ok (.iload_n 2, 1) := by decide +kernel
theorem dX2_layOut_15 : decode cX2_layOut 15 = .ok (.putfield 19, 3) := by decide +kernel
theorem dX2_layOut_18 : decode cX2_layOut 18 = .ok (.aload_n 0, 1) := by decide +kernel
theorem dX2_layOut_19 : decode cX2_layOut 19 = .ok (.getfield 9, 3) := by decide +kernel
theorem dX2_layOut_22 : decode cX2_layOut 22 = .ok (.iconst 0, 1) := by decide +kernel
theorem dX2_layOut_23 : decode cX2_layOut 23 = .ok (.invokestatic 22, 3) := by decide +kernel
theorem dX2_layOut_26 : decode cX2_layOut 26 = .ok (.return_, 1) := by decide +kernel
theorem dX2_hasFrom_0 : decode cX2_hasFrom 0 = .ok (.iload_n 1, 1) := by decide +kernel
theorem dX2_hasFrom_1 : decode cX2_hasFrom 1 = .ok (.ifCond .lt 21, 3) := by decide +kernel
theorem dX2_hasFrom_4 : decode cX2_hasFrom 4 = .ok (.iload_n 2, 1) := by decide +kernel
theorem dX2_hasFrom_5 : decode cX2_hasFrom 5 = .ok (.ifCond .lt 17, 3) := by decide +kernel
theorem dX2_hasFrom_8 : decode cX2_hasFrom 8 = .ok (.iload_n 2, 1) := by decide +kernel
theorem dX2_hasFrom_9 : decode cX2_hasFrom 9 = .ok (.aload_n 0, 1) := by decide +kernel
theorem dX2_hasFrom_10 : decode cX2_hasFrom 10 = .ok (.getfield 19, 3) := by decide +kernel
theorem dX2_hasFrom_13 : decode cX2_hasFrom 13 = .ok (.iload_n 1, 1) := by decide +kernel
theorem dX2_hasFrom_14 : decode cX2_hasFrom 14 = .ok (.isub, 1) := by decide +kernel
theorem dX2_hasFrom_15 : decode cX2_hasFrom 15 = .ok (.if_icmp .gt 7, 3) := by decide +kernel
theorem dX2_hasFrom_18 : decode cX2_hasFrom 18 = .ok (.iconst 1, 1) := by decide +kernel
theorem dX2_hasFrom_19 : decode cX2_hasFrom 19 = .ok (.goto 4, 3) := by decide +kernel
theorem dX2_hasFrom_22 : decode cX2_hasFrom 22 = .ok (.iconst 0, 1) := by decide +kernel
theorem dX2_hasFrom_23 : decode cX2_hasFrom 23 = .ok (.ireturn, 1) := by decide +kernel
theorem dX2_set_0 : decode cX2_set 0 = .ok (.iload_n 1, 1) := by decide +kernel
theorem dX2_set_1 : decode cX2_set 1 = .ok (.ifCond .lt 17, 3) := by decide +kernel
theorem dX2_set_4 : decode cX2_set 4 = .ok (.iload_n 1, 1) := by decide +kernel
theorem dX2_set_5 : decode cX2_set 5 = .ok (.aload_n 0, 1) := by decide +kernel
theorem dX2_set_6 : decode cX2_set 6 = .ok (.getfield 19, 3) := by decide +kernel
theorem dX2_set_9 : decode cX2_set 9 = .ok (.if_icmp .ge 9, 3) := by decide +kernel
theorem dX2_set_12 : decode cX2_set 12 = .ok (.iload_n 1, 1) := by decide +kernel
theorem dX2_set_13 : decode cX2_set 13 = .ok (.bipush 40, 2) := by decide +kernel
theorem dX2_set_15 : decode cX2_set 15 = .ok (.if_icmp .lt 4, 3) := by decide +kernel
theorem dX2_set_18 : decode cX2_set 18 = .ok (.return_, 1) := by decide +kernel
theorem dX2_set_19 : decode cX2_set 19 = .ok (.aload_n 0, 1) := by decide +kernel
theorem dX2_set_20 : decode cX2_set 20 = .ok (.getfield 15, 3) := by decide +kernel
theorem dX2_set_23 : decode cX2_set 23 = .ok (.bipush 8, 2) := by decide +kernel
theorem dX2_set_25 : decode cX2_set 25 = .ok (.if_icmp .ne 14, 3) := by decide +kernel
theorem dX2_set_28 : decode cX2_set 28 = .ok (.aload_n 0, 1) := by decide +kernel
theorem dX2_set_29 : decode cX2_set 29 = .ok (.getfield 9, 3) := by decide +kernel
theorem dX2_set_32 : decode cX2_set 32 = .ok (.iload_n 1, 1) := by decide +kernel
theorem dX2_set_33 : decode cX2_set 33 = .ok (.iload_n 2, 1) := by decide +kernel
theorem dX2_set_34 : decode cX2_set 34 = .ok (.i2b, 1) := by decide +kernel
theorem dX2_set_35 : decode cX2_set 35 = .ok (.iastore, 1) := by decide +kernel
theorem dX2_set_36 : decode cX2_set 36 = .ok (.goto 30, 3) := by decide +kernel
theorem dX2_set_39 : decode cX2_set 39 = .ok (.aload_n 0, 1) := by decide +kernel
theorem dX2_set_40 : decode cX2_set 40 = .ok (.getfield 15, 3) := by decide +kernel
theorem dX2_set_43 : decode cX2_set 43 = .ok (.bipush 16, 2) := by decide +kernel
theorem dX2_set_45 : decode cX2_set 45 = .ok (.if_icmp .ne 14, 3) := by decide +kernel
theorem dX2_set_48 : decode cX2_set 48 = .ok (.aload_n 0, 1) := by decide +kernel
theorem dX2_set_49 : decode cX2_set 49 = .ok (.getfield 9, 3) := by decide +kernel
theorem dX2_set_52 : decode cX2_set 52 = .ok (.iload_n 1, 1) := by decide +kernel
theorem dX2_set_53 : decode cX2_set 53 = .ok (.iload_n 2, 1) := by decide +kernel
theorem dX2_set_54 : decode cX2_set 54 = .ok (.i2s, 1) := by decide +kernel
theorem dX2_set_55 : decode cX2_set 55 = .ok (.iastore, 1) := by decide +kernel
theorem dX2_set_56 : decode cX2_set 56 = .ok (.goto 10, 3) := by decide +kernel
theorem dX2_set_59 : decode cX2_set 59 = .ok (.aload_n 0, 1) := by decide +kernel
theorem dX2_set_60 : decode cX2_set 60 = .ok (.getfield 9, 3) := by decide +kernel
theorem dX2_set_63 : decode cX2_set 63 = .ok (.iload_n 1, 1) := by decide +kernel
theorem dX2_set_64 : decode cX2_set 64 = .ok (.iload_n 2, 1) := by decide +kernel
theorem dX2_set_65 : decode cX2_set 65 = .ok (.iastore, 1) := by decide +kernel
theorem dX2_set_66 : decode cX2_set 66 = .ok (.return_, 1) := by decide +kernel
theorem dX3_init_0 : decode cX3_init 0 = .ok (.aload_n 0, 1) := by decide +kernel
theorem dX3_init_1 : decode cX3_init 1 = .ok (.invokespecial 3, 3) := by decide +kernel
theorem dX3_init_4 : decode cX3_init 4 = .ok (.aload_n 0, 1) := by decide +kernel
theorem dX3_init_5 : decode cX3_init 5 = .ok (.bipush 120, 2) := by decide +kernel
theorem dX3_init_7 : decode cX3_init 7 = .ok (.newarray .int, 2) := by decide +kernel
theorem dX3_init_9 : decode cX3_init 9 = .ok (.putfield 9, 3) := by decide +kernel
theorem dX3_init_12 : decode cX3_init 12 = .ok (.return_, 1) := by decide +kernel
theorem dX3_put_0 : decode cX3_put 0 = .ok (.iload_n 2, 1) := by decide +kernel
theorem dX3_put_1 : decode cX3_put 1 = .ok (.iconst 1, 1) := by decide +kernel
theorem dX3_put_2 : decode cX3_put 2 = .ok (.isub, 1) := by decide +kernel
theorem dX3_put_3 : decode cX3_put 3 = .ok (.istore_n 3, 1) := by decide +kernel
theorem dX3_put_4 : decode cX3_put 4 = .ok (.iload_n 3, 1) := by decide +kernel
theorem dX3_put_5 : decode cX3_put 5 = .ok (.ifCond .lt 47, 3) := by decide +kernel
theorem dX3_put_8 : decode cX3_put 8 = .ok (.aload_n 0, 1) := by decide +kernel
theorem dX3_put_9 : decode cX3_put 9 = .ok (.getfield 15, 3) := by decide +kernel
theorem dX3_put_12 : decode cX3_put 12 = .ok (.bipush 120, 2) := by decide +kernel
theorem dX3_put_14 : decode cX3_put 14 = .ok (.if_icmp .ge 38, 3) := by decide +kernel
theorem dX3_put_17 : decode cX3_put 17 = .ok (.aload_n 0, 1) := by decide +kernel
theorem dX3_put_18 : decode cX3_put 18 = .ok (.getfield 9, 3) := by decide +kernel
theorem dX3_put_21 : decode cX3_put 21 = .ok (.aload_n 0, 1) := by decide +kernel
theorem dX3_put_22 : decode cX3_put 22 = .ok (.getfield 15, 3) := by decide +kernel
theorem dX3_put_25 : decode cX3_put 25 = .ok (.iload_n 1, 1) := by decide +kernel
theorem dX3_put_26 : decode cX3_put 26 = .ok (.bipush 8, 2) := by decide +kernel
theorem dX3_put_28 : decode cX3_put 28 = .ok (.iload_n 3, 1) := by decide +kernel
theorem dX3_put_29 : decode cX3_put 29 = .ok (.imul, 1) := by decide +kernel
theorem dX3_put_30 : decode cX3_put 30 = .ok (.ishr, 1) := by decide +kernel
theorem dX3_put_31 : decode cX3_put 31 = .ok (.sipush 255, 3) := by decide +kernel
theorem dX3_put_34 : decode cX3_put 34 = .ok (.iand, 1) := by decide +kernel
theorem dX3_put_35 : decode cX3_put 35 = .ok (.iastore, 1) := by decide +kernel
theorem dX3_put_36 : decode cX3_put 36 = .ok (.aload_n 0, 1) := by decide +kernel
theorem dX3_put_37 : decode cX3_put 37 = .ok (.dup, 1) := by decide +kernel
theorem dX3_put_38 : decode cX3_put 38 = .ok (.getfield 15, 3) := by decide +kernel
theorem dX3_put_41 : decode cX3_put 41 = .ok (.iconst 1, 1) := by decide +kernel
theorem dX3_put_42 : decode cX3_put 42 = .ok (.iadd, 1) := by decide +kernel
theorem dX3_put_43 : decode cX3_put 43 = .ok (.putfield 15, 3) := by decide +kernel
theorem dX3_put_46 : decode cX3_put 46 = .ok (.iinc 3 (-1), 3) := by decide +kernel
theorem dX3_put_49 : decode cX3_put 49 = .ok (.goto (-45), 3) := by decide +kernel
theorem dX3_put_52 : decode cX3_put 52 = .ok (.return_, 1) := by decide +kernel
set_option maxRecDepth 20000 in
theorem ggX3_readText_X3_step : GoodIn wsX3_readText wsX3_step := goodIn_r _ [9, 1, 4, 2, 3, 10, 11, 12, 13, 14, 8, 15, 16, 17, 18, 115, 116, 117, 118, 119, 120] (by decide +kernel) (by decide +kernel)
set_option maxRecDepth 20000 in
theorem gX3_readText_X3_step : GoodIn wsX3_readText (wsV RX3 22 RX3 yX3_step wsX3_step) := goodIn_app (goodIn_of _ (by decide +kernel)) ggX3_readText_X3_step
set_option maxRecDepth 20000 in
theorem ggX3_readText_X3_readItem : GoodIn wsX3_readText wsX3_readItem := goodIn_r _ [22, 23, 24, 25, 8, 26, 27, 28, 29, 30, 3, 1, 2, 11, 31, 32, 33, 34, 35, 36, 37, 38, 39, 40, 41, 42, 43, 44, 45, 46, 47, 48, 49, 50, 51, 52, 53, 54, 55, 56, 57, 58, 59, 60, 61, 62, 63, 64, 65, 66, 67, 68, 69, 70, 71, 72, 73, 74, 75, 76, 77, 78, 79, 80, 81, 82, 83, 84, 10, 5, 6, 7, 9, 4, 12, 13, 14, 15, 16, 17, 18, 85, 86, 87, 88, 89, 90, 91, 92, 93, 94, 95, 96, 97, 98, 99, 100, 101, 102, 103, 104, 105, 106, 107, 108, 109, 110, 111, 112, 113, 114, 121, 122, 123, 124, 125, 126, 127, 128, 129, 130, 115, 116, 117, 118, 119, 120] (by decide +kernel) (by decide +kernel)
set_option maxRecDepth 20000 in
theorem gX3_readText_X3_readItem : GoodIn wsX3_readText (wsV RX3 25 RX3 yX3_readItem wsX3_readItem) := goodIn_app (goodIn_of _ (by decide +kernel)) ggX3_readText_X3_readItem
theorem dX3_readText_0 : decode cX3_readText 0 = .ok (.aload_n 0, 1) := by decide +kernel
theorem dX3_readText_1 : decode cX3_readText 1 = .ok (.iconst 0, 1) := by decide +kernel
theorem dX3_readText_2 : decode cX3_readText 2 = .ok (.putfield 19, 3) := by decide +kernel
theorem dX3_readText_5 : decode cX3_readText 5 = .ok (.iconst 1, 1) := by decide +kernel
theorem dX3_readText_6 : decode cX3_readText 6 = .ok (.istore_n 2, 1) := by decide +kernel
theorem dX3_readText_7 : decode cX3_readText 7 = .ok (.iload_n 2, 1) := by decide +kernel
theorem dX3_readText_8 : decode cX3_readText 8 = .ok (.bipush 120, 2) := by decide +kernel
theorem dX3_readText_10 : decode cX3_readText 10 = .ok (.if_icmp .gt 52, 3) := by decide +kernel
theorem dX3_readText_13 : decode cX3_readText 13 = .ok (.aload_n 0, 1) := by decide +kernel
theorem dX3_readText_14 : decode cX3_readText 14 = .ok (.invokevirtual 22, 3) := by decide +kernel
theorem dX3_readText_17 : decode cX3_readText 17 = .ok (.aload_n 0, 1) := by decide +kernel
theorem dX3_readText_18 : decode cX3_readText 18 = .ok (.aload_n 1, 1) := by decide +kernel
theorem dX3_readText_19 : decode cX3_readText 19 = .ok (.invokevirtual 25, 3) := by decide +kernel
theorem dX3_readText_22 : decode cX3_readText 22 = .ok (.ifCond .ne 10, 3) := by decide +kernel
theorem dX3_readText_25 : decode cX3_readText 25 = .ok (.iconst (-1), 1) := by decide +kernel
theorem dX3_readText_26 : decode cX3_readText 26 = .ok (.aload_n 0, 1) := by decide +kernel
theorem dX3_readText_27 : decode cX3_readText 27 = .ok (.getfield 29, 3) := by decide +kernel
theorem dX3_readText_30 : decode cX3_readText 30 = .ok (.isub, 1) := by decide +kernel
theorem dX3_readText_31 : decode cX3_readText 31 = .ok (.ireturn, 1) := by decide +kernel
theorem dX3_readText_32 : decode cX3_readText 32 = .ok (.aload_n 0, 1) := by decide +kernel
theorem dX3_readText_33 : decode cX3_readText 33 = .ok (.getfield 32, 3) := by decide +kernel
theorem dX3_readText_36 : decode cX3_readText 36 = .ok (.ifCond .ne 5, 3) := by decide +kernel
theorem dX3_readText_39 : decode cX3_readText 39 = .ok (.iload_n 2, 1) := by decide +kernel
theorem dX3_readText_40 : decode cX3_readText 40 = .ok (.ireturn, 1) := by decide +kernel
theorem dX3_readText_41 : decode cX3_readText 41 = .ok (.aload_n 0, 1) := by decide +kernel
theorem dX3_readText_42 : decode cX3_readText 42 = .ok (.getfield 32, 3) := by decide +kernel
theorem dX3_readText_45 : decode cX3_readText 45 = .ok (.iconst 3, 1) := by decide +kernel
theorem dX3_readText_46 : decode cX3_readText 46 = .ok (.if_icmp .eq 10, 3) := by decide +kernel
theorem dX3_readText_49 : decode cX3_readText 49 = .ok (.iconst (-1), 1) := by decide +kernel
theorem dX3_readText_50 : decode cX3_readText 50 = .ok (.aload_n 0, 1) := by decide +kernel
theorem dX3_readText_51 : decode cX3_readText 51 = .ok (.getfield 29, 3) := by decide +kernel
theorem dX3_readText_54 : decode cX3_readText 54 = .ok (.isub, 1) := by decide +kernel
theorem dX3_readText_55 : decode cX3_readText 55 = .ok (.ireturn, 1) := by decide +kernel
theorem dX3_readText_56 : decode cX3_readText 56 = .ok (.iinc 2 1, 3) := by decide +kernel
theorem dX3_readText_59 : decode cX3_readText 59 = .ok (.goto (-52), 3) := by decide +kernel
theorem dX3_readText_62 : decode cX3_readText 62 = .ok (.iconst (-1), 1) := by decide +kernel
theorem dX3_readText_63 : decode cX3_readText 63 = .ok (.aload_n 0, 1) := by decide +kernel
theorem dX3_readText_64 : decode cX3_readText 64 = .ok (.getfield 15, 3) := by decide +kernel
theorem dX3_readText_67 : decode cX3_readText 67 = .ok (.isub, 1) := by decide +kernel
theorem dX3_readText_68 : decode cX3_readText 68 = .ok (.ireturn, 1) := by decide +kernel
set_option maxRecDepth 20000 in
theorem ggX3_readItem_X3_nameOf : GoodIn wsX3_readItem wsX3_nameOf := goodIn_r _ [5] (by decide +kernel) (by decide +kernel)
set_option maxRecDepth 20000 in
theorem gX3_readItem_X3_nameOf : GoodIn wsX3_readItem (va_wsS RX3 35 yX3_nameOf wsX3_nameOf) := goodIn_app (goodIn_of _ (by decide +kernel)) ggX3_readItem_X3_nameOf
set_option maxRecDepth 20000 in
theorem ggX3_readItem_X3_isWord : GoodIn wsX3_readItem wsX3_isWord := goodIn_r _ [9, 10, 11, 12, 13, 14, 15, 16, 17, 18, 19, 20, 21, 22, 23, 24, 25, 26, 27, 28, 29, 30, 31, 32, 33, 34, 35, 36, 37, 38, 39, 40, 41, 42, 43, 44, 45, 46, 47, 48, 49, 50, 51, 52, 53, 54, 55, 56, 57, 58, 59, 60, 61, 62, 121, 122, 123, 124, 125, 126] (by decide +kernel) (by decide +kernel)
set_option maxRecDepth 20000 in
theorem gX3_readItem_X3_isWord : GoodIn wsX3_readItem (wsV RX3 39 RX3 yX3_isWord wsX3_isWord) := goodIn_app (goodIn_of _ (by decide +kernel)) ggX3_readItem_X3_isWord
set_option maxRecDepth 20000 in
theorem ggX3_readItem_X3_readTent : GoodIn wsX3_readItem wsX3_readTent := goodIn_r _ [66, 67, 68, 69, 70, 71, 4, 72, 11, 73, 12, 10, 13, 74, 75, 76, 77, 78, 79, 80, 6, 7, 8, 9, 14, 15, 16, 17, 18, 19, 20, 21, 22, 23, 24, 25, 26, 27, 28, 29, 30, 31, 32, 33, 34, 35, 36, 37, 38, 39, 40, 41, 42, 43, 44, 45, 46, 47, 48, 49, 50, 51, 52, 53, 54, 55, 56, 57, 58, 59, 60, 61, 62, 81, 82, 83, 84, 85, 86, 87, 88, 89, 90, 91, 92, 93, 94, 95, 96, 97, 98, 99, 100, 101, 102, 103, 104, 111, 112, 113, 114, 115, 116, 117, 118, 119, 120, 121, 122, 123, 124, 125, 126] (by decide +kernel) (by decide +kernel)
set_option maxRecDepth 20000 in
theorem gX3_readItem_X3_readTent : GoodIn wsX3_readItem (wsV RX3 43 RX3 yX3_readTent wsX3_readTent) := goodIn_app (goodIn_of _ (by decide +kernel)) ggX3_readItem_X3_readTent
set_option maxRecDepth 20000 in
theorem ggX3_readItem_X3_readWall : GoodIn wsX3_readItem wsX3_readWall := goodIn_r _ [108, 68, 109, 110, 69, 70, 71, 4, 72, 11, 73, 12, 10, 13, 74, 75, 76, 77, 78, 79, 80, 81, 82, 83, 84, 6, 7, 8, 9, 14, 15, 16, 17, 18, 19, 20, 21, 22, 23, 24, 25, 26, 27, 28, 29, 30, 31, 32, 33, 34, 35, 36, 37, 38, 39, 40, 41, 42, 43, 44, 45, 46, 47, 48, 49, 50, 51, 52, 53, 54, 55, 56, 57, 58, 59, 60, 61, 62, 121, 122, 123, 124, 125, 126, 111, 112, 113, 114, 115, 116, 117, 118, 119, 120] (by decide +kernel) (by decide +kernel)
set_option maxRecDepth 20000 in
theorem gX3_readItem_X3_readWall : GoodIn wsX3_readItem (wsV RX3 49 RX3 yX3_readWall wsX3_readWall) := goodIn_app (goodIn_of _ (by decide +kernel)) ggX3_readItem_X3_readWall
set_option maxRecDepth 20000 in
theorem ggX3_readItem_X3_step : GoodIn wsX3_readItem wsX3_step := goodIn_r _ [72, 11, 73, 12, 10, 68, 13, 74, 75, 76, 4, 77, 78, 79, 80, 121, 122, 123, 124, 125, 126] (by decide +kernel) (by decide +kernel)
set_option maxRecDepth 20000 in
theorem gX3_readItem_X3_step : GoodIn wsX3_readItem (wsV RX3 22 RX3 yX3_step wsX3_step) := goodIn_app (goodIn_of _ (by decide +kernel)) ggX3_readItem_X3_step
theorem dX3_readItem_0 : decode cX3_readItem 0 = .ok (.iconst 0, 1) := by decide +kernel
theorem dX3_readItem_1 : decode cX3_readItem 1 = .ok (.istore_n 2, 1) := by decide +kernel
theorem dX3_readItem_2 : decode cX3_readItem 2 = .ok (.iload_n 2, 1) := by decide +kernel
theorem dX3_readItem_3 : decode cX3_readItem 3 = .ok (.bipush 7, 2) := by decide +kernel
theorem dX3_readItem_5 : decode cX3_readItem 5 = .ok (.if_icmp .ge 27, 3) := by decide +kernel
theorem dX3_readItem_8 : decode cX3_readItem 8 = .ok (.aload_n 0, 1) := by decide +kernel
theorem dX3_readItem_9 : decode cX3_readItem 9 = .ok (.iload_n 2, 1) := by decide +kernel
theorem dX3_readItem_10 : decode cX3_readItem 10 = .ok (.invokestatic 35, 3) := by decide +kernel
theorem dX3_readItem_13 : decode cX3_readItem 13 = .ok (.invokevirtual 39, 3) := by decide +kernel
theorem dX3_readItem_16 : decode cX3_readItem 16 = .ok (.ifCond .eq 10, 3) := by decide +kernel
theorem dX3_readItem_19 : decode cX3_readItem 19 = .ok (.aload_n 0, 1) := by decide +kernel
theorem dX3_readItem_20 : decode cX3_readItem 20 = .ok (.aload_n 1, 1) := by decide +kernel
theorem dX3_readItem_21 : decode cX3_readItem 21 = .ok (.iload_n 2, 1) := by decide +kernel
theorem dX3_readItem_22 : decode cX3_readItem 22 = .ok (.invokevirtual 43, 3) := by decide +kernel
theorem dX3_readItem_25 : decode cX3_readItem 25 = .ok (.ireturn, 1) := by decide +kernel
theorem dX3_readItem_26 : decode cX3_readItem 26 = .ok (.iinc 2 1, 3) := by decide +kernel
theorem dX3_readItem_29 : decode cX3_readItem 29 = .ok (.goto (-27), 3) := by decide +kernel
theorem dX3_readItem_32 : decode cX3_readItem 32 = .ok (.aload_n 0, 1) := by decide +kernel
theorem dX3_readItem_33 : decode cX3_readItem 33 = .ok (.ldc 47, 2) := by decide +kernel
theorem dX3_readItem_35 : decode cX3_readItem 35 = .ok (.invokevirtual 39, 3) := by decide +kernel
theorem dX3_readItem_38 : decode cX3_readItem 38 = .ok (.ifCond .eq 9, 3) := by decide +kernel
theorem dX3_readItem_41 : decode cX3_readItem 41 = .ok (.aload_n 0, 1) := by decide +kernel
theorem dX3_readItem_42 : decode cX3_readItem 42 = .ok (.aload_n 1, 1) := by decide +kernel
theorem dX3_readItem_43 : decode cX3_readItem 43 = .ok (.invokevirtual 49, 3) := by decide +kernel
theorem dX3_readItem_46 : decode cX3_readItem 46 = .ok (.ireturn, 1) := by decide +kernel
theorem dX3_readItem_47 : decode cX3_readItem 47 = .ok (.aload_n 0, 1) := by decide +kernel
theorem dX3_readItem_48 : decode cX3_readItem 48 = .ok (.ldc 52, 2) := by decide +kernel
theorem dX3_readItem_50 : decode cX3_readItem 50 = .ok (.invokevirtual 39, 3) := by decide +kernel
theorem dX3_readItem_53 : decode cX3_readItem 53 = .ok (.istore_n 2, 1) := by decide +kernel
theorem dX3_readItem_54 : decode cX3_readItem 54 = .ok (.iload_n 2, 1) := by decide +kernel
theorem dX3_readItem_55 : decode cX3_readItem 55 = .ok (.ifCond .ne 12, 3) := by decide +kernel
theorem dX3_readItem_58 : decode cX3_readItem 58 = .ok (.aload_n 0, 1) := by decide +kernel
theorem dX3_readItem_59 : decode cX3_readItem 59 = .ok (.ldc 54, 2) := by decide +kernel
theorem dX3_readItem_61 : decode cX3_readItem 61 = .ok (.invokevirtual 39, 3) := by decide +kernel
theorem dX3_readItem_64 : decode cX3_readItem 64 = .ok (.ifCond .eq 14, 3) := by decide +kernel
theorem dX3_readItem_67 : decode cX3_readItem 67 = .ok (.aload_n 1, 1) := by decide +kernel
theorem dX3_readItem_68 : decode cX3_readItem 68 = .ok (.iload_n 2, 1) := by decide +kernel
theorem dX3_readItem_69 : decode cX3_readItem 69 = .ok (.putfield 56, 3) := by decide +kernel
theorem dX3_readItem_72 : decode cX3_readItem 72 = .ok (.aload_n 0, 1) := by decide +kernel
theorem dX3_readItem_73 : decode cX3_readItem 73 = .ok (.invokevirtual 22, 3) := by decide +kernel
theorem dX3_readItem_76 : decode cX3_readItem 76 = .ok (.iconst 1, 1) := by decide +kernel
theorem dX3_readItem_77 : decode cX3_readItem 77 = .ok (.ireturn, 1) := by decide +kernel
theorem dX3_readItem_78 : decode cX3_readItem 78 = .ok (.iconst 0, 1) := by decide +kernel
theorem dX3_readItem_79 : decode cX3_readItem 79 = .ok (.ireturn, 1) := by decide +kernel
set_option maxRecDepth 20000 in
theorem ggX3_readTent_X3_step : GoodIn wsX3_readTent wsX3_step := goodIn_r _ [7, 8, 9, 10, 11, 2, 12, 13, 14, 15, 6, 16, 17, 18, 19, 107, 108, 109, 110, 111, 112] (by decide +kernel) (by decide +kernel)
set_option maxRecDepth 20000 in
theorem gX3_readTent_X3_step : GoodIn wsX3_readTent (wsV RX3 22 RX3 yX3_step wsX3_step) := goodIn_app (goodIn_of _ (by decide +kernel)) ggX3_readTent_X3_step
set_option maxRecDepth 20000 in
theorem ggX3_readTent_X3_isWord : GoodIn wsX3_readTent wsX3_isWord := goodIn_r _ [23, 11, 8, 10, 12, 24, 25, 26, 27, 28, 29, 30, 31, 32, 33, 34, 35, 36, 37, 38, 39, 40, 41, 42, 43, 44, 45, 46, 47, 48, 49, 50, 51, 52, 53, 54, 55, 56, 57, 58, 59, 60, 61, 62, 63, 64, 65, 66, 67, 68, 69, 70, 71, 72, 107, 108, 109, 110, 111, 112] (by decide +kernel) (by decide +kernel)
set_option maxRecDepth 20000 in
theorem gX3_readTent_X3_isWord : GoodIn wsX3_readTent (wsV RX3 39 RX3 yX3_isWord wsX3_isWord) := goodIn_app (goodIn_of _ (by decide +kernel)) ggX3_readTent_X3_isWord
set_option maxRecDepth 20000 in
theorem ggX3_readTent_X3_isSideNumber : GoodIn wsX3_readTent wsX3_isSideNumber := goodIn_r _ [76, 11, 2, 107, 108, 109, 110, 111, 112] (by decide +kernel) (by decide +kernel)
set_option maxRecDepth 20000 in
theorem gX3_readTent_X3_isSideNumber : GoodIn wsX3_readTent (wsV RX3 66 RX3 yX3_isSideNumber wsX3_isSideNumber) := goodIn_app (goodIn_of _ (by decide +kernel)) ggX3_readTent_X3_isSideNumber
set_option maxRecDepth 20000 in
theorem ggX3_readTent_X6_yardOf : GoodIn wsX3_readTent wsX6_yardOf := goodIn_r _ [79] (by decide +kernel) (by decide +kernel)
set_option maxRecDepth 20000 in
theorem gX3_readTent_X6_yardOf_n73 : GoodIn wsX3_readTent (wsX6_yardOf) := ggX3_readTent_X6_yardOf
set_option maxRecDepth 20000 in
theorem ggX3_readTent_X0_tentOn : GoodIn wsX3_readTent wsX0_tentOn := goodIn_r _ [84, 85, 86, 97, 98, 99, 100, 101, 102, 103, 104, 105, 106] (by decide +kernel) (by decide +kernel)
set_option maxRecDepth 20000 in
theorem gX3_readTent_X0_tentOn : GoodIn wsX3_readTent (wsV RX3 77 RX0 yX0_tentOn wsX0_tentOn) := goodIn_app (goodIn_of _ (by decide +kernel)) ggX3_readTent_X0_tentOn
set_option maxRecDepth 20000 in
theorem ggX3_readTent_X0_pitch : GoodIn wsX3_readTent wsX0_pitch := goodIn_r _ [90, 85, 91, 86, 92, 93, 94, 83, 95, 96, 97, 98, 99, 100, 101, 102, 103, 104, 105, 106] (by decide +kernel) (by decide +kernel)
set_option maxRecDepth 20000 in
theorem gX3_readTent_X0_pitch : GoodIn wsX3_readTent (wsV RX3 83 RX0 yX0_pitch wsX0_pitch) := goodIn_app (goodIn_of _ (by decide +kernel)) ggX3_readTent_X0_pitch
theorem dX3_readTent_0 : decode cX3_readTent 0 = .ok (.aload_n 1, 1) := by decide +kernel
theorem dX3_readTent_1 : decode cX3_readTent 1 = .ok (.getfield 61, 3) := by decide +kernel
theorem dX3_readTent_4 : decode cX3_readTent 4 = .ok (.bipush 10, 2) := by decide +kernel
theorem dX3_readTent_6 : decode cX3_readTent 6 = .ok (.if_icmp .lt 5, 3) := by decide +kernel
theorem dX3_readTent_9 : decode cX3_readTent 9 = .ok (.iconst 0, 1) := by decide +kernel
theorem dX3_readTent_10 : decode cX3_readTent 10 = .ok (.ireturn, 1) := by decide +kernel
theorem dX3_readTent_11 : decode cX3_readTent 11 = .ok (.aload_n 0, 1) := by decide +kernel
theorem dX3_readTent_12 : decode cX3_readTent 12 = .ok (.invokevirtual 22, 3) := by decide +kernel
theorem dX3_readTent_15 : decode cX3_readTent 15 = .ok (.aload_n 0, 1) := by decide +kernel
theorem dX3_readTent_16 : decode cX3_readTent 16 = .ok (.ldc 64, 2) := by decide +kernel
theorem dX3_readTent_18 : decode cX3_readTent 18 = .ok (.invokevirtual 39, 3) := by decide +kernel
theorem dX3_readTent_21 : decode cX3_readTent 21 = .ok (.ifCond .ne 5, 3) := by decide +kernel
theorem dX3_readTent_24 : decode cX3_readTent 24 = .ok (.iconst 0, 1) := by decide +kernel
theorem dX3_readTent_25 : decode cX3_readTent 25 = .ok (.ireturn, 1) := by decide +kernel
theorem dX3_readTent_26 : decode cX3_readTent 26 = .ok (.aload_n 0, 1) := by decide +kernel
theorem dX3_readTent_27 : decode cX3_readTent 27 = .ok (.invokevirtual 22, 3) := by decide +kernel
theorem dX3_readTent_30 : decode cX3_readTent 30 = .ok (.aload_n 0, 1) := by decide +kernel
theorem dX3_readTent_31 : decode cX3_readTent 31 = .ok (.invokevirtual 66, 3) := by decide +kernel
theorem dX3_readTent_34 : decode cX3_readTent 34 = .ok (.ifCond .ne 5, 3) := by decide +kernel
theorem dX3_readTent_37 : decode cX3_readTent 37 = .ok (.iconst 0, 1) := by decide +kernel
theorem dX3_readTent_38 : decode cX3_readTent 38 = .ok (.ireturn, 1) := by decide +kernel
theorem dX3_readTent_39 : decode cX3_readTent 39 = .ok (.aload_n 0, 1) := by decide +kernel
theorem dX3_readTent_40 : decode cX3_readTent 40 = .ok (.getfield 70, 3) := by decide +kernel
theorem dX3_readTent_43 : decode cX3_readTent 43 = .ok (.istore_n 3, 1) := by decide +kernel
theorem dX3_readTent_44 : decode cX3_readTent 44 = .ok (.aload_n 0, 1) := by decide +kernel
theorem dX3_readTent_45 : decode cX3_readTent 45 = .ok (.invokevirtual 22, 3) := by decide +kernel
theorem dX3_readTent_48 : decode cX3_readTent 48 = .ok (.aload_n 0, 1) := by decide +kernel
theorem dX3_readTent_49 : decode cX3_readTent 49 = .ok (.invokevirtual 66, 3) := by decide +kernel
theorem dX3_readTent_52 : decode cX3_readTent 52 = .ok (.ifCond .eq 19, 3) := by decide +kernel
theorem dX3_readTent_55 : decode cX3_readTent 55 = .ok (.aload_n 1, 1) := by decide +kernel
theorem dX3_readTent_56 : decode cX3_readTent 56 = .ok (.iload_n 3, 1) := by decide +kernel
theorem dX3_readTent_57 : decode cX3_readTent 57 = .ok (.aload_n 0, 1) := by decide +kernel
theorem dX3_readTent_58 : decode cX3_readTent 58 = .ok (.getfield 70, 3) := by decide +kernel
theorem dX3_readTent_61 : decode cX3_readTent 61 = .ok (.invokestatic 73, 3) := by decide +kernel
theorem dX3_readTent_64 : decode cX3_readTent 64 = .ok (.invokevirtual 77, 3) := by decide +kernel
theorem dX3_readTent_67 : decode cX3_readTent 67 = .ok (.iconst (-1), 1) := by decide +kernel
theorem dX3_readTent_68 : decode cX3_readTent 68 = .ok (.if_icmp .eq 5, 3) := by decide +kernel
theorem dX3_readTent_71 : decode cX3_readTent 71 = .ok (.iconst 0, 1) := by decide +kernel
theorem dX3_readTent_72 : decode cX3_readTent 72 = .ok (.ireturn, 1) := by decide +kernel
theorem dX3_readTent_73 : decode cX3_readTent 73 = .ok (.iload_n 3, 1) := by decide +kernel
theorem dX3_readTent_74 : decode cX3_readTent 74 = .ok (.aload_n 0, 1) := by decide +kernel
theorem dX3_readTent_75 : decode cX3_readTent 75 = .ok (.getfield 70, 3) := by decide +kernel
theorem dX3_readTent_78 : decode cX3_readTent 78 = .ok (.invokestatic 73, 3) := by decide +kernel
theorem dX3_readTent_81 : decode cX3_readTent 81 = .ok (.istore 4, 2) := by decide +kernel
theorem dX3_readTent_83 : decode cX3_readTent 83 = .ok (.aload_n 0, 1) := by decide +kernel
theorem dX3_readTent_84 : decode cX3_readTent 84 = .ok (.invokevirtual 22, 3) := by decide +kernel
theorem dX3_readTent_87 : decode cX3_readTent 87 = .ok (.iconst 0, 1) := by decide +kernel
theorem dX3_readTent_88 : decode cX3_readTent 88 = .ok (.istore 5, 2) := by decide +kernel
theorem dX3_readTent_90 : decode cX3_readTent 90 = .ok (.aload_n 0, 1) := by decide +kernel
theorem dX3_readTent_91 : decode cX3_readTent 91 = .ok (.ldc 81, 2) := by decide +kernel
theorem dX3_readTent_93 : decode cX3_readTent 93 = .ok (.invokevirtual 39, 3) := by decide +kernel
theorem dX3_readTent_96 : decode cX3_readTent 96 = .ok (.ifCond .eq 10, 3) := by decide +kernel
theorem dX3_readTent_99 : decode cX3_readTent 99 = .ok (.iconst 1, 1) := by decide +kernel
theorem dX3_readTent_100 : decode cX3_readTent 100 = .ok (.istore 5, 2) := by decide +kernel
theorem dX3_readTent_102 : decode cX3_readTent 102 = .ok (.aload_n 0, 1) := by decide +kernel
theorem dX3_readTent_103 : decode cX3_readTent 103 = .ok (.invokevirtual 22, 3) := by decide +kernel
theorem dX3_readTent_106 : decode cX3_readTent 106 = .ok (.aload_n 1, 1) := by decide +kernel
theorem dX3_readTent_107 : decode cX3_readTent 107 = .ok (.iload_n 2, 1) := by decide +kernel
theorem dX3_readTent_108 : decode cX3_readTent 108 = .ok (.iload 4, 2) := by decide +kernel
theorem dX3_readTent_110 : decode cX3_readTent 110 = .ok (.iload 5, 2) := by decide +kernel
theorem dX3_readTent_112 : decode cX3_readTent 112 = .ok (.invokevirtual 83, 3) := by decide +kernel
theorem dX3_readTent_115 : decode cX3_readTent 115 = .ok (.pop, 1) := by decide +kernel
theorem dX3_readTent_116 : decode cX3_readTent 116 = .ok (.iconst 1, 1) := by decide +kernel
theorem dX3_readTent_117 : decode cX3_readTent 117 = .ok (.ireturn, 1) := by decide +kernel
set_option maxRecDepth 20000 in
theorem ggX3_readWall_X3_step : GoodIn wsX3_readWall wsX3_step := goodIn_r _ [8, 9, 10, 11, 12, 1, 13, 14, 15, 16, 7, 17, 18, 19, 20, 78, 79, 80, 81, 82, 83] (by decide +kernel) (by decide +kernel)
set_option maxRecDepth 20000 in
theorem gX3_readWall_X3_step : GoodIn wsX3_readWall (wsV RX3 22 RX3 yX3_step wsX3_step) := goodIn_app (goodIn_of _ (by decide +kernel)) ggX3_readWall_X3_step
set_option maxRecDepth 20000 in
theorem ggX3_readWall_X3_isSideNumber : GoodIn wsX3_readWall wsX3_isSideNumber := goodIn_r _ [24, 12, 1, 78, 79, 80, 81, 82, 83] (by decide +kernel) (by decide +kernel)
set_option maxRecDepth 20000 in
theorem gX3_readWall_X3_isSideNumber : GoodIn wsX3_readWall (wsV RX3 66 RX3 yX3_isSideNumber wsX3_isSideNumber) := goodIn_app (goodIn_of _ (by decide +kernel)) ggX3_readWall_X3_isSideNumber
set_option maxRecDepth 20000 in
theorem ggX3_readWall_X3_isWord : GoodIn wsX3_readWall wsX3_isWord := goodIn_r _ [28, 12, 9, 11, 13, 29, 30, 31, 32, 33, 34, 35, 36, 37, 38, 39, 40, 41, 42, 43, 44, 45, 46, 47, 48, 49, 50, 51, 52, 53, 54, 55, 56, 57, 58, 59, 60, 61, 62, 63, 64, 65, 66, 67, 68, 69, 70, 71, 72, 73, 74, 75, 76, 77, 78, 79, 80, 81, 82, 83] (by decide +kernel) (by decide +kernel)
set_option maxRecDepth 20000 in
theorem gX3_readWall_X3_isWord : GoodIn wsX3_readWall (wsV RX3 39 RX3 yX3_isWord wsX3_isWord) := goodIn_app (goodIn_of _ (by decide +kernel)) ggX3_readWall_X3_isWord
theorem dX3_readWall_0 : decode cX3_readWall 0 = .ok (.aload_n 0, 1) := by decide +kernel
theorem dX3_readWall_1 : decode cX3_readWall 1 = .ok (.invokevirtual 22, 3) := by decide +kernel
theorem dX3_readWall_4 : decode cX3_readWall 4 = .ok (.aload_n 0, 1) := by decide +kernel
theorem dX3_readWall_5 : decode cX3_readWall 5 = .ok (.invokevirtual 66, 3) := by decide +kernel
theorem dX3_readWall_8 : decode cX3_readWall 8 = .ok (.ifCond .ne 5, 3) := by decide +kernel
theorem dX3_readWall_11 : decode cX3_readWall 11 = .ok (.iconst 0, 1) := by decide +kernel
theorem dX3_readWall_12 : decode cX3_readWall 12 = .ok (.ireturn, 1) := by decide +kernel
theorem dX3_readWall_13 : decode cX3_readWall 13 = .ok (.aload_n 1, 1) := by decide +kernel
theorem dX3_readWall_14 : decode cX3_readWall 14 = .ok (.aload_n 0, 1) := by decide +kernel
theorem dX3_readWall_15 : decode cX3_readWall 15 = .ok (.getfield 70, 3) := by decide +kernel
theorem dX3_readWall_18 : decode cX3_readWall 18 = .ok (.putfield 87, 3) := by decide +kernel
theorem dX3_readWall_21 : decode cX3_readWall 21 = .ok (.aload_n 0, 1) := by decide +kernel
theorem dX3_readWall_22 : decode cX3_readWall 22 = .ok (.invokevirtual 22, 3) := by decide +kernel
theorem dX3_readWall_25 : decode cX3_readWall 25 = .ok (.aload_n 0, 1) := by decide +kernel
theorem dX3_readWall_26 : decode cX3_readWall 26 = .ok (.ldc 89, 2) := by decide +kernel
theorem dX3_readWall_28 : decode cX3_readWall 28 = .ok (.invokevirtual 39, 3) := by decide +kernel
theorem dX3_readWall_31 : decode cX3_readWall 31 = .ok (.ifCond .ne 5, 3) := by decide +kernel
theorem dX3_readWall_34 : decode cX3_readWall 34 = .ok (.iconst 1, 1) := by decide +kernel
theorem dX3_readWall_35 : decode cX3_readWall 35 = .ok (.ireturn, 1) := by decide +kernel
theorem dX3_readWall_36 : decode cX3_readWall 36 = .ok (.aload_n 0, 1) := by decide +kernel
theorem dX3_readWall_37 : decode cX3_readWall 37 = .ok (.invokevirtual 22, 3) := by decide +kernel
theorem dX3_readWall_40 : decode cX3_readWall 40 = .ok (.aload_n 0, 1) := by decide +kernel
theorem dX3_readWall_41 : decode cX3_readWall 41 = .ok (.invokevirtual 66, 3) := by decide +kernel
theorem dX3_readWall_44 : decode cX3_readWall 44 = .ok (.ifCond .ne 5, 3) := by decide +kernel
theorem dX3_readWall_47 : decode cX3_readWall 47 = .ok (.iconst 0, 1) := by decide +kernel
theorem dX3_readWall_48 : decode cX3_readWall 48 = .ok (.ireturn, 1) := by decide +kernel
theorem dX3_readWall_49 : decode cX3_readWall 49 = .ok (.aload_n 1, 1) := by decide +kernel
theorem dX3_readWall_50 : decode cX3_readWall 50 = .ok (.aload_n 0, 1) := by decide +kernel
theorem dX3_readWall_51 : decode cX3_readWall 51 = .ok (.getfield 70, 3) := by decide +kernel
theorem dX3_readWall_54 : decode cX3_readWall 54 = .ok (.putfield 91, 3) := by decide +kernel
theorem dX3_readWall_57 : decode cX3_readWall 57 = .ok (.aload_n 0, 1) := by decide +kernel
theorem dX3_readWall_58 : decode cX3_readWall 58 = .ok (.invokevirtual 22, 3) := by decide +kernel
theorem dX3_readWall_61 : decode cX3_readWall 61 = .ok (.iconst 1, 1) := by decide +kernel
theorem dX3_readWall_62 : decode cX3_readWall 62 = .ok (.ireturn, 1) := by decide +kernel
theorem dX3_nameOf_0 : decode cX3_nameOf 0 = .ok (.iload_n 0, 1) := by decide +kernel
theorem dX3_nameOf_1 : decode cX3_nameOf 1 = .ok (.tableswitch 57 1 6 #[39, 42, 45, 48, 51, 54], 39) := by decide +kernel
theorem dX3_nameOf_40 : decode cX3_nameOf 40 = .ok (.ldc 93, 2) := by decide +kernel
theorem dX3_nameOf_42 : decode cX3_nameOf 42 = .ok (.areturn, 1) := by decide +kernel
theorem dX3_nameOf_43 : decode cX3_nameOf 43 = .ok (.ldc 95, 2) := by decide +kernel
theorem dX3_nameOf_45 : decode cX3_nameOf 45 = .ok (.areturn, 1) := by decide +kernel
theorem dX3_nameOf_46 : decode cX3_nameOf 46 = .ok (.ldc 97, 2) := by decide +kernel
theorem dX3_nameOf_48 : decode cX3_nameOf 48 = .ok (.areturn, 1) := by decide +kernel
theorem dX3_nameOf_49 : decode cX3_nameOf 49 = .ok (.ldc 99, 2) := by decide +kernel
theorem dX3_nameOf_51 : decode cX3_nameOf 51 = .ok (.areturn, 1) := by decide +kernel
theorem dX3_nameOf_52 : decode cX3_nameOf 52 = .ok (.ldc 101, 2) := by decide +kernel
theorem dX3_nameOf_54 : decode cX3_nameOf 54 = .ok (.areturn, 1) := by decide +kernel
theorem dX3_nameOf_55 : decode cX3_nameOf 55 = .ok (.ldc 103, 2) := by decide +kernel
theorem dX3_nameOf_57 : decode cX3_nameOf 57 = .ok (.areturn, 1) := by decide +kernel
theorem dX3_nameOf_58 : decode cX3_nameOf 58 = .ok (.ldc 105, 2) := by decide +kernel
theorem dX3_nameOf_60 : decode cX3_nameOf 60 = .ok (.areturn, 1) := by decide +kernel
theorem dX3_isSideNumber_0 : decode cX3_isSideNumber 0 = .ok (.aload_n 0, 1) := by decide +kernel
theorem dX3_isSideNumber_1 : decode cX3_isSideNumber 1 = .ok (.getfield 32, 3) := by decide +kernel
theorem dX3_isSideNumber_4 : decode cX3_isSideNumber 4 = .ok (.iconst 2, 1) := by decide +kernel
theorem dX3_isSideNumber_5 : decode cX3_isSideNumber 5 = .ok (.if_icmp .ne 16, 3) := by decide +kernel
theorem dX3_isSideNumber_8 : decode cX3_isSideNumber 8 = .ok (.aload_n 0, 1) := by decide +kernel
theorem dX3_isSideNumber_9 : decode cX3_isSideNumber 9 = .ok (.getfield 70, 3) := by decide +kernel
theorem dX3_isSideNumber_12 : decode cX3_isSideNumber 12 = .ok (.bipush 12, 2) := by decide +kernel
theorem dX3_isSideNumber_14 : decode cX3_isSideNumber 14 = .ok (.if_icmp .ge 7, 3) := by decide +kernel
theorem dX3_isSideNumber_17 : decode cX3_isSideNumber 17 = .ok (.iconst 1, 1) := by decide +kernel
theorem dX3_isSideNumber_18 : decode cX3_isSideNumber 18 = .ok (.goto 4, 3) := by decide +kernel
theorem dX3_isSideNumber_21 : decode cX3_isSideNumber 21 = .ok (.iconst 0, 1) := by decide +kernel
theorem dX3_isSideNumber_22 : decode cX3_isSideNumber 22 = .ok (.ireturn, 1) := by decide +kernel
set_option maxRecDepth 20000 in
theorem ggX3_isWord_J0_length_8abf5 : GoodIn wsX3_isWord wsJ0_length_8abf5 := goodIn_r _ [9, 10, 11, 12, 13, 8, 14, 15, 16] (by decide +kernel) (by decide +kernel)
set_option maxRecDepth 20000 in
theorem gX3_isWord_J0_length_8abf5 : GoodIn wsX3_isWord (wsV RX3 107 RJ0 yJ0_length_8abf5 wsJ0_length_8abf5) := goodIn_app (goodIn_of _ (by decide +kernel)) ggX3_isWord_J0_length_8abf5
set_option maxRecDepth 20000 in
theorem ggX3_isWord_J0_charAt_5068e : GoodIn wsX3_isWord wsJ0_charAt_5068e := goodIn_r _ [20, 10, 21, 22, 23, 8, 24, 15, 16, 25, 26, 27, 28, 29, 30, 31, 32, 33, 34, 35, 36, 37, 38, 39, 40, 41, 42, 43, 44, 45, 46, 47, 48, 49, 50, 51, 52, 53] (by decide +kernel) (by decide +kernel)
set_option maxRecDepth 20000 in
theorem gX3_isWord_J0_charAt_5068e : GoodIn wsX3_isWord (wsV RX3 113 RJ0 yJ0_charAt_5068e wsJ0_charAt_5068e) := goodIn_app (goodIn_of _ (by decide +kernel)) ggX3_isWord_J0_charAt_5068e
theorem dX3_isWord_0 : decode cX3_isWord 0 = .ok (.aload_n 0, 1) := by decide +kernel
theorem dX3_isWord_1 : decode cX3_isWord 1 = .ok (.getfield 32, 3) := by decide +kernel
theorem dX3_isWord_4 : decode cX3_isWord 4 = .ok (.iconst 1, 1) := by decide +kernel
theorem dX3_isWord_5 : decode cX3_isWord 5 = .ok (.if_icmp .ne 19, 3) := by decide +kernel
theorem dX3_isWord_8 : decode cX3_isWord 8 = .ok (.aload_n 0, 1) := by decide +kernel
theorem dX3_isWord_9 : decode cX3_isWord 9 = .ok (.getfield 19, 3) := by decide +kernel
theorem dX3_isWord_12 : decode cX3_isWord 12 = .ok (.aload_n 0, 1) := by decide +kernel
theorem dX3_isWord_13 : decode cX3_isWord 13 = .ok (.getfield 29, 3) := by decide +kernel
theorem dX3_isWord_16 : decode cX3_isWord 16 = .ok (.isub, 1) := by decide +kernel
theorem dX3_isWord_17 : decode cX3_isWord 17 = .ok (.aload_n 1, 1) := by decide +kernel
theorem dX3_isWord_18 : decode cX3_isWord 18 = .ok (.invokevirtual 107, 3) := by decide +kernel
theorem dX3_isWord_21 : decode cX3_isWord 21 = .ok (.if_icmp .eq 5, 3) := by decide +kernel
theorem dX3_isWord_24 : decode cX3_isWord 24 = .ok (.iconst 0, 1) := by decide +kernel
theorem dX3_isWord_25 : decode cX3_isWord 25 = .ok (.ireturn, 1) := by decide +kernel
theorem dX3_isWord_26 : decode cX3_isWord 26 = .ok (.iconst 0, 1) := by decide +kernel
theorem dX3_isWord_27 : decode cX3_isWord 27 = .ok (.istore_n 2, 1) := by decide +kernel
theorem dX3_isWord_28 : decode cX3_isWord 28 = .ok (.iload_n 2, 1) := by decide +kernel
theorem dX3_isWord_29 : decode cX3_isWord 29 = .ok (.aload_n 1, 1) := by decide +kernel
theorem dX3_isWord_30 : decode cX3_isWord 30 = .ok (.invokevirtual 107, 3) := by decide +kernel
theorem dX3_isWord_33 : decode cX3_isWord 33 = .ok (.if_icmp .ge 41, 3) := by decide +kernel
theorem dX3_isWord_36 : decode cX3_isWord 36 = .ok (.aload_n 0, 1) := by decide +kernel
theorem dX3_isWord_37 : decode cX3_isWord 37 = .ok (.getfield 29, 3) := by decide +kernel
theorem dX3_isWord_40 : decode cX3_isWord 40 = .ok (.iload_n 2, 1) := by decide +kernel
theorem dX3_isWord_41 : decode cX3_isWord 41 = .ok (.iadd, 1) := by decide +kernel
theorem dX3_isWord_42 : decode cX3_isWord 42 = .ok (.bipush 120, 2) := by decide +kernel
theorem dX3_isWord_44 : decode cX3_isWord 44 = .ok (.if_icmp .ge 30, 3) := by decide +kernel
theorem dX3_isWord_47 : decode cX3_isWord 47 = .ok (.aload_n 0, 1) := by decide +kernel
theorem dX3_isWord_48 : decode cX3_isWord 48 = .ok (.getfield 9, 3) := by decide +kernel
theorem dX3_isWord_51 : decode cX3_isWord 51 = .ok (.aload_n 0, 1) := by decide +kernel
theorem dX3_isWord_52 : decode cX3_isWord 52 = .ok (.getfield 29, 3) := by decide +kernel
theorem dX3_isWord_55 : decode cX3_isWord 55 = .ok (.iload_n 2, 1) := by decide +kernel
theorem dX3_isWord_56 : decode cX3_isWord 56 = .ok (.iadd, 1) := by decide +kernel
theorem dX3_isWord_57 : decode cX3_isWord 57 = .ok (.iaload, 1) := by decide +kernel
theorem dX3_isWord_58 : decode cX3_isWord 58 = .ok (.aload_n 1, 1) := by decide +kernel
theorem dX3_isWord_59 : decode cX3_isWord 59 = .ok (.iload_n 2, 1) := by decide +kernel
theorem dX3_isWord_60 : decode cX3_isWord 60 = .ok (.invokevirtual 113, 3) := by decide +kernel
theorem dX3_isWord_63 : decode cX3_isWord 63 = .ok (.if_icmp .eq 5, 3) := by decide +kernel
theorem dX3_isWord_66 : decode cX3_isWord 66 = .ok (.iconst 0, 1) := by decide +kernel
theorem dX3_isWord_67 : decode cX3_isWord 67 = .ok (.ireturn, 1) := by decide +kernel
theorem dX3_isWord_68 : decode cX3_isWord 68 = .ok (.iinc 2 1, 3) := by decide +kernel
theorem dX3_isWord_71 : decode cX3_isWord 71 = .ok (.goto (-43), 3) := by decide +kernel
theorem dX3_isWord_74 : decode cX3_isWord 74 = .ok (.iconst 1, 1) := by decide +kernel
theorem dX3_isWord_75 : decode cX3_isWord 75 = .ok (.ireturn, 1) := by decide +kernel
set_option maxRecDepth 20000 in
theorem ggX3_step_X3_sortAt : GoodIn wsX3_step wsX3_sortAt := goodIn_r _ [11, 2, 6, 15, 16, 17, 18, 19, 20] (by decide +kernel) (by decide +kernel)
set_option maxRecDepth 20000 in
theorem gX3_step_X3_sortAt : GoodIn wsX3_step (wsV RX3 117 RX3 yX3_sortAt wsX3_sortAt) := goodIn_app (goodIn_of _ (by decide +kernel)) ggX3_step_X3_sortAt
set_option maxRecDepth 20000 in
theorem ggX3_step_X3_grown : GoodIn wsX3_step wsX3_grown := goodIn_r _ [14] (by decide +kernel) (by decide +kernel)
set_option maxRecDepth 20000 in
theorem gX3_step_X3_grown : GoodIn wsX3_step (va_wsS RX3 120 yX3_grown wsX3_grown) := goodIn_app (goodIn_of _ (by decide +kernel)) ggX3_step_X3_grown
theorem dX3_step_0 : decode cX3_step 0 = .ok (.aload_n 0, 1) := by decide +kernel
theorem dX3_step_1 : decode cX3_step 1 = .ok (.getfield 19, 3) := by decide +kernel
theorem dX3_step_4 : decode cX3_step 4 = .ok (.aload_n 0, 1) := by decide +kernel
theorem dX3_step_5 : decode cX3_step 5 = .ok (.getfield 15, 3) := by decide +kernel
theorem dX3_step_8 : decode cX3_step 8 = .ok (.if_icmp .ge 28, 3) := by decide +kernel
theorem dX3_step_11 : decode cX3_step 11 = .ok (.aload_n 0, 1) := by decide +kernel
theorem dX3_step_12 : decode cX3_step 12 = .ok (.aload_n 0, 1) := by decide +kernel
theorem dX3_step_13 : decode cX3_step 13 = .ok (.getfield 19, 3) := by decide +kernel
theorem dX3_step_16 : decode cX3_step 16 = .ok (.invokevirtual 117, 3) := by decide +kernel
theorem dX3_step_19 : decode cX3_step 19 = .ok (.iconst 4, 1) := by decide +kernel
theorem dX3_step_20 : decode cX3_step 20 = .ok (.if_icmp .ne 16, 3) := by decide +kernel
theorem dX3_step_23 : decode cX3_step 23 = .ok (.aload_n 0, 1) := by decide +kernel
theorem dX3_step_24 : decode cX3_step 24 = .ok (.dup, 1) := by decide +kernel
theorem dX3_step_25 : decode cX3_step 25 = .ok (.getfield 19, 3) := by decide +kernel
theorem dX3_step_28 : decode cX3_step 28 = .ok (.iconst 1, 1) := by decide +kernel
theorem dX3_step_29 : decode cX3_step 29 = .ok (.iadd, 1) := by decide +kernel
theorem dX3_step_30 : decode cX3_step 30 = .ok (.putfield 19, 3) := by decide +kernel
theorem dX3_step_33 : decode cX3_step 33 = .ok (.goto (-33), 3) := by decide +kernel
theorem dX3_step_36 : decode cX3_step 36 = .ok (.aload_n 0, 1) := by decide +kernel
theorem dX3_step_37 : decode cX3_step 37 = .ok (.aload_n 0, 1) := by decide +kernel
theorem dX3_step_38 : decode cX3_step 38 = .ok (.getfield 19, 3) := by decide +kernel
theorem dX3_step_41 : decode cX3_step 41 = .ok (.putfield 29, 3) := by decide +kernel
theorem dX3_step_44 : decode cX3_step 44 = .ok (.aload_n 0, 1) := by decide +kernel
theorem dX3_step_45 : decode cX3_step 45 = .ok (.aload_n 0, 1) := by decide +kernel
theorem dX3_step_46 : decode cX3_step 46 = .ok (.aload_n 0, 1) := by decide +kernel
theorem dX3_step_47 : decode cX3_step 47 = .ok (.getfield 29, 3) := by decide +kernel
theorem dX3_step_50 : decode cX3_step 50 = .ok (.invokevirtual 117, 3) := by decide +kernel
theorem dX3_step_53 : decode cX3_step 53 = .ok (.putfield 32, 3) := by decide +kernel
theorem dX3_step_56 : decode cX3_step 56 = .ok (.aload_n 0, 1) := by decide +kernel
theorem dX3_step_57 : decode cX3_step 57 = .ok (.iconst 0, 1) := by decide +kernel
theorem dX3_step_58 : decode cX3_step 58 = .ok (.putfield 70, 3) := by decide +kernel
theorem dX3_step_61 : decode cX3_step 61 = .ok (.aload_n 0, 1) := by decide +kernel
theorem dX3_step_62 : decode cX3_step 62 = .ok (.getfield 19, 3) := by decide +kernel
theorem dX3_step_65 : decode cX3_step 65 = .ok (.aload_n 0, 1) := by decide +kernel
theorem dX3_step_66 : decode cX3_step 66 = .ok (.getfield 15, 3) := by decide +kernel
theorem dX3_step_69 : decode cX3_step 69 = .ok (.if_icmp .ge 77, 3) := by decide +kernel
theorem dX3_step_72 : decode cX3_step 72 = .ok (.aload_n 0, 1) := by decide +kernel
theorem dX3_step_73 : decode cX3_step 73 = .ok (.getfield 19, 3) := by decide +kernel
theorem dX3_step_76 : decode cX3_step 76 = .ok (.bipush 120, 2) := by decide +kernel
theorem dX3_step_78 : decode cX3_step 78 = .ok (.if_icmp .ge 68, 3) := by decide +kernel
theorem dX3_step_81 : decode cX3_step 81 = .ok (.aload_n 0, 1) := by decide +kernel
theorem dX3_step_82 : decode cX3_step 82 = .ok (.aload_n 0, 1) := by decide +kernel
theorem dX3_step_83 : decode cX3_step 83 = .ok (.getfield 19, 3) := by decide +kernel
theorem dX3_step_86 : decode cX3_step 86 = .ok (.invokevirtual 117, 3) := by decide +kernel
theorem dX3_step_89 : decode cX3_step 89 = .ok (.aload_n 0, 1) := by decide +kernel
theorem dX3_step_90 : decode cX3_step 90 = .ok (.getfield 32, 3) := by decide +kernel
theorem dX3_step_93 : decode cX3_step 93 = .ok (.if_icmp .ne 53, 3) := by decide +kernel
theorem dX3_step_96 : decode cX3_step 96 = .ok (.aload_n 0, 1) := by decide +kernel
theorem dX3_step_97 : decode cX3_step 97 = .ok (.getfield 32, 3) := by decide +kernel
theorem dX3_step_100 : decode cX3_step 100 = .ok (.iconst 2, 1) := by decide +kernel
theorem dX3_step_101 : decode cX3_step 101 = .ok (.if_icmp .ne 26, 3) := by decide +kernel
theorem dX3_step_104 : decode cX3_step 104 = .ok (.aload_n 0, 1) := by decide +kernel
theorem dX3_step_105 : decode cX3_step 105 = .ok (.aload_n 0, 1) := by decide +kernel
theorem dX3_step_106 : decode cX3_step 106 = .ok (.getfield 70, 3) := by decide +kernel
theorem dX3_step_109 : decode cX3_step 109 = .ok (.aload_n 0, 1) := by decide +kernel
theorem dX3_step_110 : decode cX3_step 110 = .ok (.getfield 9, 3) := by decide +kernel
theorem dX3_step_113 : decode cX3_step 113 = .ok (.aload_n 0, 1) := by decide +kernel
theorem dX3_step_114 : decode cX3_step 114 = .ok (.getfield 19, 3) := by decide +kernel
theorem dX3_step_117 : decode cX3_step 117 = .ok (.iaload, 1) := by decide +kernel
theorem dX3_step_118 : decode cX3_step 118 = .ok (.bipush 48, 2) := by decide +kernel
theorem dX3_step_120 : decode cX3_step 120 = .ok (.isub, 1) := by decide +kernel
theorem dX3_step_121 : decode cX3_step 121 = .ok (.invokestatic 120, 3) := by decide +kernel
theorem dX3_step_124 : decode cX3_step 124 = .ok (.putfield 70, 3) := by decide +kernel
theorem dX3_step_127 : decode cX3_step 127 = .ok (.aload_n 0, 1) := by decide +kernel
theorem dX3_step_128 : decode cX3_step 128 = .ok (.dup, 1) := by decide +kernel
theorem dX3_step_129 : decode cX3_step 129 = .ok (.getfield 19, 3) := by decide +kernel
theorem dX3_step_132 : decode cX3_step 132 = .ok (.iconst 1, 1) := by decide +kernel
theorem dX3_step_133 : decode cX3_step 133 = .ok (.iadd, 1) := by decide +kernel
theorem dX3_step_134 : decode cX3_step 134 = .ok (.putfield 19, 3) := by decide +kernel
theorem dX3_step_137 : decode cX3_step 137 = .ok (.aload_n 0, 1) := by decide +kernel
theorem dX3_step_138 : decode cX3_step 138 = .ok (.getfield 32, 3) := by decide +kernel
theorem dX3_step_141 : decode cX3_step 141 = .ok (.iconst 3, 1) := by decide +kernel
theorem dX3_step_142 : decode cX3_step 142 = .ok (.if_icmp .ne (-81), 3) := by decide +kernel
theorem dX3_step_145 : decode cX3_step 145 = .ok (.return_, 1) := by decide +kernel
theorem dX3_step_146 : decode cX3_step 146 = .ok (.return_, 1) := by decide +kernel
theorem dX3_grown_0 : decode cX3_grown 0 = .ok (.iload_n 0, 1) := by decide +kernel
theorem dX3_grown_1 : decode cX3_grown 1 = .ok (.sipush 1000, 3) := by decide +kernel
theorem dX3_grown_4 : decode cX3_grown 4 = .ok (.if_icmp .lt 9, 3) := by decide +kernel
theorem dX3_grown_7 : decode cX3_grown 7 = .ok (.sipush 1000, 3) := by decide +kernel
theorem dX3_grown_10 : decode cX3_grown 10 = .ok (.goto 9, 3) := by decide +kernel
theorem dX3_grown_13 : decode cX3_grown 13 = .ok (.bipush 10, 2) := by decide +kernel
theorem dX3_grown_15 : decode cX3_grown 15 = .ok (.iload_n 0, 1) := by decide +kernel
theorem dX3_grown_16 : decode cX3_grown 16 = .ok (.imul, 1) := by decide +kernel
theorem dX3_grown_17 : decode cX3_grown 17 = .ok (.iload_n 1, 1) := by decide +kernel
theorem dX3_grown_18 : decode cX3_grown 18 = .ok (.iadd, 1) := by decide +kernel
theorem dX3_grown_19 : decode cX3_grown 19 = .ok (.ireturn, 1) := by decide +kernel
theorem dX3_sortAt_0 : decode cX3_sortAt 0 = .ok (.iload_n 1, 1) := by decide +kernel
theorem dX3_sortAt_1 : decode cX3_sortAt 1 = .ok (.ifCond .lt 17, 3) := by decide +kernel
theorem dX3_sortAt_4 : decode cX3_sortAt 4 = .ok (.iload_n 1, 1) := by decide +kernel
theorem dX3_sortAt_5 : decode cX3_sortAt 5 = .ok (.aload_n 0, 1) := by decide +kernel
theorem dX3_sortAt_6 : decode cX3_sortAt 6 = .ok (.getfield 15, 3) := by decide +kernel
theorem dX3_sortAt_9 : decode cX3_sortAt 9 = .ok (.if_icmp .ge 9, 3) := by decide +kernel
theorem dX3_sortAt_12 : decode cX3_sortAt 12 = .ok (.iload_n 1, 1) := by decide +kernel
theorem dX3_sortAt_13 : decode cX3_sortAt 13 = .ok (.bipush 120, 2) := by decide +kernel
theorem dX3_sortAt_15 : decode cX3_sortAt 15 = .ok (.if_icmp .lt 5, 3) := by decide +kernel
theorem dX3_sortAt_18 : decode cX3_sortAt 18 = .ok (.iconst 0, 1) := by decide +kernel
theorem dX3_sortAt_19 : decode cX3_sortAt 19 = .ok (.ireturn, 1) := by decide +kernel
theorem dX3_sortAt_20 : decode cX3_sortAt 20 = .ok (.aload_n 0, 1) := by decide +kernel
theorem dX3_sortAt_21 : decode cX3_sortAt 21 = .ok (.getfield 9, 3) := by decide +kernel
theorem dX3_sortAt_24 : decode cX3_sortAt 24 = .ok (.iload_n 1, 1) := by decide +kernel
theorem dX3_sortAt_25 : decode cX3_sortAt 25 = .ok (.iaload, 1) := by decide +kernel
theorem dX3_sortAt_26 : decode cX3_sortAt 26 = .ok (.istore_n 2, 1) := by decide +kernel
theorem dX3_sortAt_27 : decode cX3_sortAt 27 = .ok (.iload_n 2, 1) := by decide +kernel
theorem dX3_sortAt_28 : decode cX3_sortAt 28 = .ok (.bipush 97, 2) := by decide +kernel
theorem dX3_sortAt_30 : decode cX3_sortAt 30 = .ok (.if_icmp .lt 11, 3) := by decide +kernel
theorem dX3_sortAt_33 : decode cX3_sortAt 33 = .ok (.iload_n 2, 1) := by decide +kernel
theorem dX3_sortAt_34 : decode cX3_sortAt 34 = .ok (.bipush 122, 2) := by decide +kernel
theorem dX3_sortAt_36 : decode cX3_sortAt 36 = .ok (.if_icmp .gt 5, 3) := by decide +kernel
theorem dX3_sortAt_39 : decode cX3_sortAt 39 = .ok (.iconst 1, 1) := by decide +kernel
theorem dX3_sortAt_40 : decode cX3_sortAt 40 = .ok (.ireturn, 1) := by decide +kernel
theorem dX3_sortAt_41 : decode cX3_sortAt 41 = .ok (.iload_n 2, 1) := by decide +kernel
theorem dX3_sortAt_42 : decode cX3_sortAt 42 = .ok (.bipush 48, 2) := by decide +kernel
theorem dX3_sortAt_44 : decode cX3_sortAt 44 = .ok (.if_icmp .lt 11, 3) := by decide +kernel
theorem dX3_sortAt_47 : decode cX3_sortAt 47 = .ok (.iload_n 2, 1) := by decide +kernel
theorem dX3_sortAt_48 : decode cX3_sortAt 48 = .ok (.bipush 57, 2) := by decide +kernel
theorem dX3_sortAt_50 : decode cX3_sortAt 50 = .ok (.if_icmp .gt 5, 3) := by decide +kernel
theorem dX3_sortAt_53 : decode cX3_sortAt 53 = .ok (.iconst 2, 1) := by decide +kernel
theorem dX3_sortAt_54 : decode cX3_sortAt 54 = .ok (.ireturn, 1) := by decide +kernel
theorem dX3_sortAt_55 : decode cX3_sortAt 55 = .ok (.iload_n 2, 1) := by decide +kernel
theorem dX3_sortAt_56 : decode cX3_sortAt 56 = .ok (.bipush 59, 2) := by decide +kernel
theorem dX3_sortAt_58 : decode cX3_sortAt 58 = .ok (.if_icmp .ne 7, 3) := by decide +kernel
theorem dX3_sortAt_61 : decode cX3_sortAt 61 = .ok (.iconst 3, 1) := by decide +kernel
theorem dX3_sortAt_62 : decode cX3_sortAt 62 = .ok (.goto 14, 3) := by decide +kernel
theorem dX3_sortAt_65 : decode cX3_sortAt 65 = .ok (.iload_n 2, 1) := by decide +kernel
theorem dX3_sortAt_66 : decode cX3_sortAt 66 = .ok (.bipush 32, 2) := by decide +kernel
theorem dX3_sortAt_68 : decode cX3_sortAt 68 = .ok (.if_icmp .ne 7, 3) := by decide +kernel
theorem dX3_sortAt_71 : decode cX3_sortAt 71 = .ok (.iconst 4, 1) := by decide +kernel
theorem dX3_sortAt_72 : decode cX3_sortAt 72 = .ok (.goto 4, 3) := by decide +kernel
theorem dX3_sortAt_75 : decode cX3_sortAt 75 = .ok (.iconst 5, 1) := by decide +kernel
theorem dX3_sortAt_76 : decode cX3_sortAt 76 = .ok (.ireturn, 1) := by decide +kernel
set_option maxRecDepth 20000 in
theorem ggX4_init_X0_init : GoodIn wsX4_init wsX0_init := goodIn_r _ [17, 18, 2, 3, 12, 19, 20, 21, 22, 23, 24, 25, 26, 27, 36, 37, 38, 39, 40, 41, 42, 43, 44, 45] (by decide +kernel) (by decide +kernel)
set_option maxRecDepth 20000 in
theorem gX4_init_X0_init : GoodIn wsX4_init (wsX0_init) := ggX4_init_X0_init
set_option maxRecDepth 20000 in
theorem ggX4_init_X1_init : GoodIn wsX4_init wsX1_init := goodIn_r _ [30, 31, 2, 3, 12, 32, 33, 34, 35, 50, 51, 52, 53] (by decide +kernel) (by decide +kernel)
set_option maxRecDepth 20000 in
theorem gX4_init_X1_init : GoodIn wsX4_init (wsX1_init) := ggX4_init_X1_init
theorem dX4_init_0 : decode cX4_init 0 = .ok (.aload_n 0, 1) := by decide +kernel
theorem dX4_init_1 : decode cX4_init 1 = .ok (.invokespecial 3, 3) := by decide +kernel
theorem dX4_init_4 : decode cX4_init 4 = .ok (.aload_n 0, 1) := by decide +kernel
theorem dX4_init_5 : decode cX4_init 5 = .ok (.new 9, 3) := by decide +kernel
theorem dX4_init_8 : decode cX4_init 8 = .ok (.dup, 1) := by decide +kernel
theorem dX4_init_9 : decode cX4_init 9 = .ok (.invokespecial 11, 3) := by decide +kernel
theorem dX4_init_12 : decode cX4_init 12 = .ok (.putfield 12, 3) := by decide +kernel
theorem dX4_init_15 : decode cX4_init 15 = .ok (.aload_n 0, 1) := by decide +kernel
theorem dX4_init_16 : decode cX4_init 16 = .ok (.new 18, 3) := by decide +kernel
theorem dX4_init_19 : decode cX4_init 19 = .ok (.dup, 1) := by decide +kernel
theorem dX4_init_20 : decode cX4_init 20 = .ok (.aload_n 0, 1) := by decide +kernel
theorem dX4_init_21 : decode cX4_init 21 = .ok (.getfield 12, 3) := by decide +kernel
theorem dX4_init_24 : decode cX4_init 24 = .ok (.invokespecial 20, 3) := by decide +kernel
theorem dX4_init_27 : decode cX4_init 27 = .ok (.putfield 23, 3) := by decide +kernel
theorem dX4_init_30 : decode cX4_init 30 = .ok (.aload_n 0, 1) := by decide +kernel
theorem dX4_init_31 : decode cX4_init 31 = .ok (.bipush 10, 2) := by decide +kernel
theorem dX4_init_33 : decode cX4_init 33 = .ok (.newarray .int, 2) := by decide +kernel
theorem dX4_init_35 : decode cX4_init 35 = .ok (.putfield 27, 3) := by decide +kernel
theorem dX4_init_38 : decode cX4_init 38 = .ok (.aload_n 0, 1) := by decide +kernel
theorem dX4_init_39 : decode cX4_init 39 = .ok (.aload_n 1, 1) := by decide +kernel
theorem dX4_init_40 : decode cX4_init 40 = .ok (.putfield 31, 3) := by decide +kernel
theorem dX4_init_43 : decode cX4_init 43 = .ok (.return_, 1) := by decide +kernel
set_option maxRecDepth 20000 in
theorem ggX4_begin_X0_become : GoodIn wsX4_begin wsX0_become := goodIn_r _ [14, 15, 16, 7, 8, 9, 17, 18, 19, 20, 21, 22, 23, 24, 25, 75, 76, 77, 78, 79, 80, 81, 82, 83, 84] (by decide +kernel) (by decide +kernel)
set_option maxRecDepth 20000 in
theorem gX4_begin_X0_become : GoodIn wsX4_begin (wsV RX4 34 RX0 yX0_become wsX0_become) := goodIn_app (goodIn_of _ (by decide +kernel)) ggX4_begin_X0_become
set_option maxRecDepth 20000 in
theorem ggX4_begin_X1_listen : GoodIn wsX4_begin wsX1_listen := goodIn_r _ [30, 31, 32, 33, 34, 35, 29, 36, 37, 38, 39, 40, 41, 13, 42, 23, 21, 43, 44, 45, 46, 22, 47, 48, 49, 50, 51, 52, 53, 54, 55, 56, 57, 58, 59, 60, 61, 62, 63, 64, 65, 66, 71, 72, 73, 74, 75, 76, 77, 78, 79, 80, 81, 82, 83, 84] (by decide +kernel) (by decide +kernel)
set_option maxRecDepth 20000 in
theorem gX4_begin_X1_listen : GoodIn wsX4_begin (wsV RX4 37 RX1 yX1_listen wsX1_listen) := goodIn_app (goodIn_of _ (by decide +kernel)) ggX4_begin_X1_listen
theorem dX4_begin_0 : decode cX4_begin 0 = .ok (.aload_n 0, 1) := by decide +kernel
theorem dX4_begin_1 : decode cX4_begin 1 = .ok (.getfield 12, 3) := by decide +kernel
theorem dX4_begin_4 : decode cX4_begin 4 = .ok (.aload_n 0, 1) := by decide +kernel
theorem dX4_begin_5 : decode cX4_begin 5 = .ok (.getfield 31, 3) := by decide +kernel
theorem dX4_begin_8 : decode cX4_begin 8 = .ok (.invokevirtual 34, 3) := by decide +kernel
theorem dX4_begin_11 : decode cX4_begin 11 = .ok (.aload_n 0, 1) := by decide +kernel
theorem dX4_begin_12 : decode cX4_begin 12 = .ok (.getfield 23, 3) := by decide +kernel
theorem dX4_begin_15 : decode cX4_begin 15 = .ok (.invokevirtual 37, 3) := by decide +kernel
theorem dX4_begin_18 : decode cX4_begin 18 = .ok (.aload_n 0, 1) := by decide +kernel
theorem dX4_begin_19 : decode cX4_begin 19 = .ok (.getfield 23, 3) := by decide +kernel
theorem dX4_begin_22 : decode cX4_begin 22 = .ok (.getfield 40, 3) := by decide +kernel
theorem dX4_begin_25 : decode cX4_begin 25 = .ok (.iconst 0, 1) := by decide +kernel
theorem dX4_begin_26 : decode cX4_begin 26 = .ok (.aload_n 0, 1) := by decide +kernel
theorem dX4_begin_27 : decode cX4_begin 27 = .ok (.getfield 27, 3) := by decide +kernel
theorem dX4_begin_30 : decode cX4_begin 30 = .ok (.iconst 0, 1) := by decide +kernel
theorem dX4_begin_31 : decode cX4_begin 31 = .ok (.bipush 10, 2) := by decide +kernel
theorem dX4_begin_33 : decode cX4_begin 33 = .ok (.invokestatic 43, 3) := by decide +kernel
theorem dX4_begin_36 : decode cX4_begin 36 = .ok (.return_, 1) := by decide +kernel
set_option maxRecDepth 20000 in
theorem ggX4_tryMove_X0_has : GoodIn wsX4_tryMove wsX0_has := goodIn_r _ [8, 9, 59, 60, 61, 62, 63, 64, 65, 66, 67, 68] (by decide +kernel) (by decide +kernel)
set_option maxRecDepth 20000 in
theorem gX4_tryMove_X0_has : GoodIn wsX4_tryMove (wsV RX4 49 RX0 yX0_has wsX0_has) := goodIn_app (goodIn_of _ (by decide +kernel)) ggX4_tryMove_X0_has
set_option maxRecDepth 20000 in
theorem ggX4_tryMove_X1_listenAgain : GoodIn wsX4_tryMove wsX1_listenAgain := goodIn_r _ [14, 15, 16, 17, 5, 6, 7, 8, 9, 18, 19, 20, 13, 21, 22, 23, 24, 25, 26, 27, 28, 29, 30, 31, 32, 33, 34, 35, 36, 37, 38, 39, 40, 41, 42, 43, 44, 45, 46, 47, 48, 49, 50, 51, 52, 53, 54, 69, 70, 71, 72, 59, 60, 61, 62, 63, 64, 65, 66, 67, 68] (by decide +kernel) (by decide +kernel)
set_option maxRecDepth 20000 in
theorem gX4_tryMove_X1_listenAgain : GoodIn wsX4_tryMove (wsV RX4 56 RX1 yX1_listenAgain wsX1_listenAgain) := goodIn_app (goodIn_of _ (by decide +kernel)) ggX4_tryMove_X1_listenAgain
theorem dX4_tryMove_0 : decode cX4_tryMove 0 = .ok (.aload_n 0, 1) := by decide +kernel
theorem dX4_tryMove_1 : decode cX4_tryMove 1 = .ok (.getfield 12, 3) := by decide +kernel
theorem dX4_tryMove_4 : decode cX4_tryMove 4 = .ok (.iload_n 1, 1) := by decide +kernel
theorem dX4_tryMove_5 : decode cX4_tryMove 5 = .ok (.invokevirtual 49, 3) := by decide +kernel
theorem dX4_tryMove_8 : decode cX4_tryMove 8 = .ok (.ifCond .eq 21, 3) := by decide +kernel
theorem dX4_tryMove_11 : decode cX4_tryMove 11 = .ok (.aload_n 0, 1) := by decide +kernel
theorem dX4_tryMove_12 : decode cX4_tryMove 12 = .ok (.getfield 12, 3) := by decide +kernel
theorem dX4_tryMove_15 : decode cX4_tryMove 15 = .ok (.getfield 53, 3) := by decide +kernel
theorem dX4_tryMove_18 : decode cX4_tryMove 18 = .ok (.iload_n 1, 1) := by decide +kernel
theorem dX4_tryMove_19 : decode cX4_tryMove 19 = .ok (.iload_n 2, 1) := by decide +kernel
theorem dX4_tryMove_20 : decode cX4_tryMove 20 = .ok (.iastore, 1) := by decide +kernel
theorem dX4_tryMove_21 : decode cX4_tryMove 21 = .ok (.aload_n 0, 1) := by decide +kernel
theorem dX4_tryMove_22 : decode cX4_tryMove 22 = .ok (.getfield 23, 3) := by decide +kernel
theorem dX4_tryMove_25 : decode cX4_tryMove 25 = .ok (.iload_n 1, 1) := by decide +kernel
theorem dX4_tryMove_26 : decode cX4_tryMove 26 = .ok (.invokevirtual 56, 3) := by decide +kernel
theorem dX4_tryMove_29 : decode cX4_tryMove 29 = .ok (.return_, 1) := by decide +kernel
theorem dX4_hearingOther_0 : decode cX4_hearingOther 0 = .ok (.iconst 0, 1) := by decide +kernel
theorem dX4_hearingOther_1 : decode cX4_hearingOther 1 = .ok (.istore_n 1, 1) := by decide +kernel
theorem dX4_hearingOther_2 : decode cX4_hearingOther 2 = .ok (.iconst 0, 1) := by decide +kernel
theorem dX4_hearingOther_3 : decode cX4_hearingOther 3 = .ok (.istore_n 2, 1) := by decide +kernel
theorem dX4_hearingOther_4 : decode cX4_hearingOther 4 = .ok (.iload_n 2, 1) := by decide +kernel
theorem dX4_hearingOther_5 : decode cX4_hearingOther 5 = .ok (.aload_n 0, 1) := by decide +kernel
theorem dX4_hearingOther_6 : decode cX4_hearingOther 6 = .ok (.getfield 12, 3) := by decide +kernel
theorem dX4_hearingOther_9 : decode cX4_hearingOther 9 = .ok (.getfield 60, 3) := by decide +kernel
theorem dX4_hearingOther_12 : decode cX4_hearingOther 12 = .ok (.if_icmp .ge 33, 3) := by decide +kernel
theorem dX4_hearingOther_15 : decode cX4_hearingOther 15 = .ok (.aload_n 0, 1) := by decide +kernel
theorem dX4_hearingOther_16 : decode cX4_hearingOther 16 = .ok (.getfield 23, 3) := by decide +kernel
theorem dX4_hearingOther_19 : decode cX4_hearingOther 19 = .ok (.getfield 40, 3) := by decide +kernel
theorem dX4_hearingOther_22 : decode cX4_hearingOther 22 = .ok (.iload_n 2, 1) := by decide +kernel
theorem dX4_hearingOther_23 : decode cX4_hearingOther 23 = .ok (.iaload, 1) := by decide +kernel
theorem dX4_hearingOther_24 : decode cX4_hearingOther 24 = .ok (.aload_n 0, 1) := by decide +kernel
theorem dX4_hearingOther_25 : decode cX4_hearingOther 25 = .ok (.getfield 27, 3) := by decide +kernel
theorem dX4_hearingOther_28 : decode cX4_hearingOther 28 = .ok (.iload_n 2, 1) := by decide +kernel
theorem dX4_hearingOther_29 : decode cX4_hearingOther 29 = .ok (.iaload, 1) := by decide +kernel
theorem dX4_hearingOther_30 : decode cX4_hearingOther 30 = .ok (.if_icmp .eq 9, 3) := by decide +kernel
theorem dX4_hearingOther_33 : decode cX4_hearingOther 33 = .ok (.iload_n 1, 1) := by decide +kernel
theorem dX4_hearingOther_34 : decode cX4_hearingOther 34 = .ok (.iconst 1, 1) := by decide +kernel
theorem dX4_hearingOther_35 : decode cX4_hearingOther 35 = .ok (.iload_n 2, 1) := by decide +kernel
theorem dX4_hearingOther_36 : decode cX4_hearingOther 36 = .ok (.ishl, 1) := by decide +kernel
theorem dX4_hearingOther_37 : decode cX4_hearingOther 37 = .ok (.ior, 1) := by decide +kernel
theorem dX4_hearingOther_38 : decode cX4_hearingOther 38 = .ok (.istore_n 1, 1) := by decide +kernel
theorem dX4_hearingOther_39 : decode cX4_hearingOther 39 = .ok (.iinc 2 1, 3) := by decide +kernel
theorem dX4_hearingOther_42 : decode cX4_hearingOther 42 = .ok (.goto (-38), 3) := by decide +kernel
theorem dX4_hearingOther_45 : decode cX4_hearingOther 45 = .ok (.iload_n 1, 1) := by decide +kernel
theorem dX4_hearingOther_46 : decode cX4_hearingOther 46 = .ok (.ireturn, 1) := by decide +kernel
set_option maxRecDepth 20000 in
theorem ggX4_voteAfter_X1_saidAfter : GoodIn wsX4_voteAfter wsX1_saidAfter := goodIn_r _ [8, 9, 10, 11, 7, 12, 13, 14, 15, 16, 17, 18, 19, 20, 21, 43, 44, 45, 46, 33, 34, 35, 36, 37, 38, 39, 40, 41, 42] (by decide +kernel) (by decide +kernel)
set_option maxRecDepth 20000 in
theorem gX4_voteAfter_X1_saidAfter : GoodIn wsX4_voteAfter (wsV RX4 67 RX1 yX1_saidAfter wsX1_saidAfter) := goodIn_app (goodIn_of _ (by decide +kernel)) ggX4_voteAfter_X1_saidAfter
set_option maxRecDepth 20000 in
theorem ggX4_voteAfter_J6_bitCount_0f7a4 : GoodIn wsX4_voteAfter wsJ6_bitCount_0f7a4 := goodIn_r _ [25, 26, 27, 28] (by decide +kernel) (by decide +kernel)
set_option maxRecDepth 20000 in
theorem gX4_voteAfter_J6_bitCount_0f7a4 : GoodIn wsX4_voteAfter (va_wsS RX4 71 yJ6_bitCount_0f7a4 wsJ6_bitCount_0f7a4) := goodIn_app (goodIn_of _ (by decide +kernel)) ggX4_voteAfter_J6_bitCount_0f7a4
theorem dX4_voteAfter_0 : decode cX4_voteAfter 0 = .ok (.aload_n 0, 1) := by decide +kernel
theorem dX4_voteAfter_1 : decode cX4_voteAfter 1 = .ok (.getfield 23, 3) := by decide +kernel
theorem dX4_voteAfter_4 : decode cX4_voteAfter 4 = .ok (.aload_n 0, 1) := by decide +kernel
theorem dX4_voteAfter_5 : decode cX4_voteAfter 5 = .ok (.getfield 12, 3) := by decide +kernel
theorem dX4_voteAfter_8 : decode cX4_voteAfter 8 = .ok (.getfield 64, 3) := by decide +kernel
theorem dX4_voteAfter_11 : decode cX4_voteAfter 11 = .ok (.iload_n 1, 1) := by decide +kernel
theorem dX4_voteAfter_12 : decode cX4_voteAfter 12 = .ok (.invokevirtual 67, 3) := by decide +kernel
theorem dX4_voteAfter_15 : decode cX4_voteAfter 15 = .ok (.invokestatic 71, 3) := by decide +kernel
theorem dX4_voteAfter_18 : decode cX4_voteAfter 18 = .ok (.ireturn, 1) := by decide +kernel
set_option maxRecDepth 20000 in
theorem ggX4_isWon_X4_voteAfter : GoodIn wsX4_isWon wsX4_voteAfter := goodIn_r _ [7, 8, 1, 9, 10, 11, 12, 13, 14, 15, 16, 17, 18, 19, 20, 21, 22, 23, 24, 25, 26, 27, 28, 29, 30, 31, 32, 33, 34, 35, 36, 37, 38, 39, 40, 41, 42, 43, 44, 45, 46, 47, 48, 49, 50, 51, 52] (by decide +kernel) (by decide +kernel)
set_option maxRecDepth 20000 in
theorem gX4_isWon_X4_voteAfter : GoodIn wsX4_isWon (wsV RX4 77 RX4 yX4_voteAfter wsX4_voteAfter) := goodIn_app (goodIn_of _ (by decide +kernel)) ggX4_isWon_X4_voteAfter
theorem dX4_isWon_0 : decode cX4_isWon 0 = .ok (.iconst 2, 1) := by decide +kernel
theorem dX4_isWon_1 : decode cX4_isWon 1 = .ok (.aload_n 0, 1) := by decide +kernel
theorem dX4_isWon_2 : decode cX4_isWon 2 = .ok (.iload_n 1, 1) := by decide +kernel
theorem dX4_isWon_3 : decode cX4_isWon 3 = .ok (.invokevirtual 77, 3) := by decide +kernel
theorem dX4_isWon_6 : decode cX4_isWon 6 = .ok (.imul, 1) := by decide +kernel
theorem dX4_isWon_7 : decode cX4_isWon 7 = .ok (.aload_n 0, 1) := by decide +kernel
theorem dX4_isWon_8 : decode cX4_isWon 8 = .ok (.getfield 12, 3) := by decide +kernel
theorem dX4_isWon_11 : decode cX4_isWon 11 = .ok (.getfield 60, 3) := by decide +kernel
theorem dX4_isWon_14 : decode cX4_isWon 14 = .ok (.if_icmp .le 7, 3) := by decide +kernel
theorem dX4_isWon_17 : decode cX4_isWon 17 = .ok (.iconst 1, 1) := by decide +kernel
theorem dX4_isWon_18 : decode cX4_isWon 18 = .ok (.goto 4, 3) := by decide +kernel
theorem dX4_isWon_21 : decode cX4_isWon 21 = .ok (.iconst 0, 1) := by decide +kernel
theorem dX4_isWon_22 : decode cX4_isWon 22 = .ok (.ireturn, 1) := by decide +kernel
set_option maxRecDepth 20000 in
theorem ggX4_leastMove_X4_begin : GoodIn wsX4_leastMove wsX4_begin := goodIn_r _ [10, 11, 2, 12, 13, 14, 15, 16, 17, 18, 19, 20, 21, 22, 23, 24, 25, 26, 27, 28, 29, 30, 31, 32, 33, 34, 35, 36, 37, 38, 39, 40, 41, 42, 43, 44, 45, 46, 47, 48, 49, 50, 51, 52, 53, 54, 55, 56, 57, 58, 59, 60, 61, 62, 63, 64, 65, 66, 67, 68, 69, 70, 71, 72, 73, 74, 75, 122, 123, 124, 125, 136, 137, 138, 139, 126, 127, 128, 129, 130, 131, 132, 133, 134, 135] (by decide +kernel) (by decide +kernel)
set_option maxRecDepth 20000 in
theorem gX4_leastMove_X4_begin : GoodIn wsX4_leastMove (wsV RX4 80 RX4 yX4_begin wsX4_begin) := goodIn_app (goodIn_of _ (by decide +kernel)) ggX4_leastMove_X4_begin
set_option maxRecDepth 20000 in
theorem ggX4_leastMove_X4_isWon : GoodIn wsX4_leastMove wsX4_isWon := goodIn_r _ [79, 11, 3, 80, 81, 82, 9, 83, 12, 84, 85, 86, 87, 38, 88, 89, 90, 91, 92, 40, 41, 93, 94, 95, 96, 71, 61, 60, 97, 98, 99, 100, 101, 102, 103, 122, 123, 124, 125, 126, 127, 128, 129, 130, 131, 132, 133, 134, 135, 136, 137, 138, 139] (by decide +kernel) (by decide +kernel)
set_option maxRecDepth 20000 in
theorem gX4_leastMove_X4_isWon : GoodIn wsX4_leastMove (wsV RX4 83 RX4 yX4_isWon wsX4_isWon) := goodIn_app (goodIn_of _ (by decide +kernel)) ggX4_leastMove_X4_isWon
set_option maxRecDepth 20000 in
theorem ggX4_leastMove_X0_apart : GoodIn wsX4_leastMove wsX0_apart := goodIn_r _ [51, 32, 30, 52, 53, 54, 55, 31, 126, 127, 128, 129, 130, 131, 132, 133, 134, 135] (by decide +kernel) (by decide +kernel)
set_option maxRecDepth 20000 in
theorem gX4_leastMove_X0_apart : GoodIn wsX4_leastMove (wsV RX4 87 RX0 yX0_apart wsX0_apart) := goodIn_app (goodIn_of _ (by decide +kernel)) ggX4_leastMove_X0_apart
set_option maxRecDepth 20000 in
theorem ggX4_leastMove_X0_tentOn : GoodIn wsX4_leastMove wsX0_tentOn := goodIn_r _ [108, 28, 26, 126, 127, 128, 129, 130, 131, 132, 133, 134, 135] (by decide +kernel) (by decide +kernel)
set_option maxRecDepth 20000 in
theorem gX4_leastMove_X0_tentOn : GoodIn wsX4_leastMove (wsV RX4 90 RX0 yX0_tentOn wsX0_tentOn) := goodIn_app (goodIn_of _ (by decide +kernel)) ggX4_leastMove_X0_tentOn
set_option maxRecDepth 20000 in
theorem ggX4_leastMove_X4_tryMove : GoodIn wsX4_leastMove wsX4_tryMove := goodIn_r _ [112, 11, 4, 12, 113, 114, 115, 22, 116, 28, 117, 118, 119, 38, 120, 40, 41, 121, 42, 43, 44, 45, 46, 47, 48, 49, 50, 51, 32, 30, 52, 53, 54, 55, 31, 56, 57, 58, 59, 60, 61, 62, 63, 64, 65, 66, 67, 68, 69, 70, 71, 72, 73, 74, 75, 122, 123, 124, 125, 126, 127, 128, 129, 130, 131, 132, 133, 134, 135, 136, 137, 138, 139] (by decide +kernel) (by decide +kernel)
set_option maxRecDepth 20000 in
theorem gX4_leastMove_X4_tryMove : GoodIn wsX4_leastMove (wsV RX4 93 RX4 yX4_tryMove wsX4_tryMove) := goodIn_app (goodIn_of _ (by decide +kernel)) ggX4_leastMove_X4_tryMove
theorem dX4_leastMove_0 : decode cX4_leastMove 0 = .ok (.aload_n 0, 1) := by decide +kernel
theorem dX4_leastMove_1 : decode cX4_leastMove 1 = .ok (.invokevirtual 80, 3) := by decide +kernel
theorem dX4_leastMove_4 : decode cX4_leastMove 4 = .ok (.aload_n 0, 1) := by decide +kernel
theorem dX4_leastMove_5 : decode cX4_leastMove 5 = .ok (.iload_n 1, 1) := by decide +kernel
theorem dX4_leastMove_6 : decode cX4_leastMove 6 = .ok (.invokevirtual 83, 3) := by decide +kernel
theorem dX4_leastMove_9 : decode cX4_leastMove 9 = .ok (.ifCond .eq 5, 3) := by decide +kernel
theorem dX4_leastMove_12 : decode cX4_leastMove 12 = .ok (.iconst 0, 1) := by decide +kernel
theorem dX4_leastMove_13 : decode cX4_leastMove 13 = .ok (.ireturn, 1) := by decide +kernel
theorem dX4_leastMove_14 : decode cX4_leastMove 14 = .ok (.iconst (-1), 1) := by decide +kernel
theorem dX4_leastMove_15 : decode cX4_leastMove 15 = .ok (.istore_n 2, 1) := by decide +kernel
theorem dX4_leastMove_16 : decode cX4_leastMove 16 = .ok (.ldc 86, 2) := by decide +kernel
theorem dX4_leastMove_18 : decode cX4_leastMove 18 = .ok (.istore_n 3, 1) := by decide +kernel
theorem dX4_leastMove_19 : decode cX4_leastMove 19 = .ok (.iconst 0, 1) := by decide +kernel
theorem dX4_leastMove_20 : decode cX4_leastMove 20 = .ok (.istore 4, 2) := by decide +kernel
theorem dX4_leastMove_22 : decode cX4_leastMove 22 = .ok (.iload 4, 2) := by decide +kernel
theorem dX4_leastMove_24 : decode cX4_leastMove 24 = .ok (.aload_n 0, 1) := by decide +kernel
theorem dX4_leastMove_25 : decode cX4_leastMove 25 = .ok (.getfield 31, 3) := by decide +kernel
theorem dX4_leastMove_28 : decode cX4_leastMove 28 = .ok (.getfield 60, 3) := by decide +kernel
theorem dX4_leastMove_31 : decode cX4_leastMove 31 = .ok (.if_icmp .ge 117, 3) := by decide +kernel
theorem dX4_leastMove_34 : decode cX4_leastMove 34 = .ok (.iconst 0, 1) := by decide +kernel
theorem dX4_leastMove_35 : decode cX4_leastMove 35 = .ok (.istore 5, 2) := by decide +kernel
theorem dX4_leastMove_37 : decode cX4_leastMove 37 = .ok (.iload 5, 2) := by decide +kernel
theorem dX4_leastMove_39 : decode cX4_leastMove 39 = .ok (.sipush 144, 3) := by decide +kernel
theorem dX4_leastMove_42 : decode cX4_leastMove 42 = .ok (.if_icmp .ge 84, 3) := by decide +kernel
theorem dX4_leastMove_45 : decode cX4_leastMove 45 = .ok (.aload_n 0, 1) := by decide +kernel
theorem dX4_leastMove_46 : decode cX4_leastMove 46 = .ok (.getfield 31, 3) := by decide +kernel
theorem dX4_leastMove_49 : decode cX4_leastMove 49 = .ok (.aload_n 0, 1) := by decide +kernel
theorem dX4_leastMove_50 : decode cX4_leastMove 50 = .ok (.getfield 31, 3) := by decide +kernel
theorem dX4_leastMove_53 : decode cX4_leastMove 53 = .ok (.getfield 53, 3) := by decide +kernel
theorem dX4_leastMove_56 : decode cX4_leastMove 56 = .ok (.iload 4, 2) := by decide +kernel
theorem dX4_leastMove_58 : decode cX4_leastMove 58 = .ok (.iaload, 1) := by decide +kernel
theorem dX4_leastMove_59 : decode cX4_leastMove 59 = .ok (.iload 5, 2) := by decide +kernel
theorem dX4_leastMove_61 : decode cX4_leastMove 61 = .ok (.invokevirtual 87, 3) := by decide +kernel
theorem dX4_leastMove_64 : decode cX4_leastMove 64 = .ok (.istore 6, 2) := by decide +kernel
theorem dX4_leastMove_66 : decode cX4_leastMove 66 = .ok (.iload 6, 2) := by decide +kernel
theorem dX4_leastMove_68 : decode cX4_leastMove 68 = .ok (.iload_n 3, 1) := by decide +kernel
theorem dX4_leastMove_69 : decode cX4_leastMove 69 = .ok (.if_icmp .ge 51, 3) := by decide +kernel
theorem dX4_leastMove_72 : decode cX4_leastMove 72 = .ok (.aload_n 0, 1) := by decide +kernel
theorem dX4_leastMove_73 : decode cX4_leastMove 73 = .ok (.getfield 31, 3) := by decide +kernel
theorem dX4_leastMove_76 : decode cX4_leastMove 76 = .ok (.iload 5, 2) := by decide +kernel
theorem dX4_leastMove_78 : decode cX4_leastMove 78 = .ok (.invokevirtual 90, 3) := by decide +kernel
theorem dX4_leastMove_81 : decode cX4_leastMove 81 = .ok (.iconst (-1), 1) := by decide +kernel
theorem dX4_leastMove_82 : decode cX4_leastMove 82 = .ok (.if_icmp .ne 38, 3) := by decide +kernel
theorem dX4_leastMove_85 : decode cX4_leastMove 85 = .ok (.aload_n 0, 1) := by decide +kernel
theorem dX4_leastMove_86 : decode cX4_leastMove 86 = .ok (.iload 4, 2) := by decide +kernel
theorem dX4_leastMove_88 : decode cX4_leastMove 88 = .ok (.iload 5, 2) := by decide +kernel
theorem dX4_leastMove_90 : decode cX4_leastMove 90 = .ok (.invokevirtual 93, 3) := by decide +kernel
theorem dX4_leastMove_93 : decode cX4_leastMove 93 = .ok (.aload_n 0, 1) := by decide +kernel
theorem dX4_leastMove_94 : decode cX4_leastMove 94 = .ok (.iload_n 1, 1) := by decide +kernel
theorem dX4_leastMove_95 : decode cX4_leastMove 95 = .ok (.invokevirtual 83, 3) := by decide +kernel
theorem dX4_leastMove_98 : decode cX4_leastMove 98 = .ok (.ifCond .eq 22, 3) := by decide +kernel
theorem dX4_leastMove_101 : decode cX4_leastMove 101 = .ok (.ldc 97, 2) := by decide +kernel
theorem dX4_leastMove_103 : decode cX4_leastMove 103 = .ok (.iload 6, 2) := by decide +kernel
theorem dX4_leastMove_105 : decode cX4_leastMove 105 = .ok (.imul, 1) := by decide +kernel
theorem dX4_leastMove_106 : decode cX4_leastMove 106 = .ok (.sipush 1000, 3) := by decide +kernel
theorem dX4_leastMove_109 : decode cX4_leastMove 109 = .ok (.iload 4, 2) := by decide +kernel
theorem dX4_leastMove_111 : decode cX4_leastMove 111 = .ok (.imul, 1) := by decide +kernel
theorem dX4_leastMove_112 : decode cX4_leastMove 112 = .ok (.iadd, 1) := by decide +kernel
theorem dX4_leastMove_113 : decode cX4_leastMove 113 = .ok (.iload 5, 2) := by decide +kernel
theorem dX4_leastMove_115 : decode cX4_leastMove 115 = .ok (.iadd, 1) := by decide +kernel
theorem dX4_leastMove_116 : decode cX4_leastMove 116 = .ok (.istore_n 2, 1) := by decide +kernel
theorem dX4_leastMove_117 : decode cX4_leastMove 117 = .ok (.iload 6, 2) := by decide +kernel
theorem dX4_leastMove_119 : decode cX4_leastMove 119 = .ok (.istore_n 3, 1) := by decide +kernel
theorem dX4_leastMove_120 : decode cX4_leastMove 120 = .ok (.iinc 5 1, 3) := by decide +kernel
theorem dX4_leastMove_123 : decode cX4_leastMove 123 = .ok (.goto (-86), 3) := by decide +kernel
theorem dX4_leastMove_126 : decode cX4_leastMove 126 = .ok (.aload_n 0, 1) := by decide +kernel
theorem dX4_leastMove_127 : decode cX4_leastMove 127 = .ok (.iload 4, 2) := by decide +kernel
theorem dX4_leastMove_129 : decode cX4_leastMove 129 = .ok (.aload_n 0, 1) := by decide +kernel
theorem dX4_leastMove_130 : decode cX4_leastMove 130 = .ok (.getfield 31, 3) := by decide +kernel
theorem dX4_leastMove_133 : decode cX4_leastMove 133 = .ok (.getfield 53, 3) := by decide +kernel
theorem dX4_leastMove_136 : decode cX4_leastMove 136 = .ok (.iload 4, 2) := by decide +kernel
theorem dX4_leastMove_138 : decode cX4_leastMove 138 = .ok (.iaload, 1) := by decide +kernel
theorem dX4_leastMove_139 : decode cX4_leastMove 139 = .ok (.invokevirtual 93, 3) := by decide +kernel
theorem dX4_leastMove_142 : decode cX4_leastMove 142 = .ok (.iinc 4 1, 3) := by decide +kernel
theorem dX4_leastMove_145 : decode cX4_leastMove 145 = .ok (.goto (-123), 3) := by decide +kernel
theorem dX4_leastMove_148 : decode cX4_leastMove 148 = .ok (.iload_n 2, 1) := by decide +kernel
theorem dX4_leastMove_149 : decode cX4_leastMove 149 = .ok (.ireturn, 1) := by decide +kernel
set_option maxRecDepth 20000 in
theorem ggX4_bestPlace_X0_become : GoodIn wsX4_bestPlace wsX0_become := goodIn_r _ [12, 13, 14, 15, 16, 17, 18, 19, 20, 21, 22, 23, 24, 25, 26, 113, 114, 115, 116, 117, 118, 119, 120, 121, 122] (by decide +kernel) (by decide +kernel)
set_option maxRecDepth 20000 in
theorem gX4_bestPlace_X0_become : GoodIn wsX4_bestPlace (wsV RX4 34 RX0 yX0_become wsX0_become) := goodIn_app (goodIn_of _ (by decide +kernel)) ggX4_bestPlace_X0_become
set_option maxRecDepth 20000 in
theorem ggX4_bestPlace_X0_pitch : GoodIn wsX4_bestPlace wsX0_pitch := goodIn_r _ [30, 20, 13, 18, 31, 32, 33, 11, 34, 21, 113, 114, 115, 116, 117, 118, 119, 120, 121, 122] (by decide +kernel) (by decide +kernel)
set_option maxRecDepth 20000 in
theorem gX4_bestPlace_X0_pitch : GoodIn wsX4_bestPlace (wsV RX4 98 RX0 yX0_pitch wsX0_pitch) := goodIn_app (goodIn_of _ (by decide +kernel)) ggX4_bestPlace_X0_pitch
set_option maxRecDepth 20000 in
theorem ggX4_bestPlace_X1_listen : GoodIn wsX4_bestPlace wsX1_listen := goodIn_r _ [39, 40, 41, 42, 43, 44, 38, 45, 46, 47, 48, 49, 50, 11, 51, 24, 22, 52, 53, 6, 54, 23, 55, 56, 57, 58, 59, 60, 61, 62, 63, 64, 65, 66, 67, 68, 69, 70, 71, 72, 73, 74, 123, 124, 125, 126, 113, 114, 115, 116, 117, 118, 119, 120, 121, 122] (by decide +kernel) (by decide +kernel)
set_option maxRecDepth 20000 in
theorem gX4_bestPlace_X1_listen : GoodIn wsX4_bestPlace (wsV RX4 37 RX1 yX1_listen wsX1_listen) := goodIn_app (goodIn_of _ (by decide +kernel)) ggX4_bestPlace_X1_listen
set_option maxRecDepth 20000 in
theorem ggX4_bestPlace_X0_tentOn : GoodIn wsX4_bestPlace wsX0_tentOn := goodIn_r _ [78, 20, 18, 113, 114, 115, 116, 117, 118, 119, 120, 121, 122] (by decide +kernel) (by decide +kernel)
set_option maxRecDepth 20000 in
theorem gX4_bestPlace_X0_tentOn : GoodIn wsX4_bestPlace (wsV RX4 90 RX0 yX0_tentOn wsX0_tentOn) := goodIn_app (goodIn_of _ (by decide +kernel)) ggX4_bestPlace_X0_tentOn
set_option maxRecDepth 20000 in
theorem ggX4_bestPlace_X4_tryMove : GoodIn wsX4_bestPlace wsX4_tryMove := goodIn_r _ [83, 1, 84, 3, 85, 86, 87, 11, 88, 20, 89, 90, 91, 38, 92, 40, 41, 93, 42, 43, 44, 45, 46, 47, 48, 49, 50, 51, 24, 22, 52, 53, 6, 54, 23, 55, 56, 57, 58, 59, 60, 61, 62, 63, 64, 65, 66, 67, 68, 69, 70, 71, 72, 73, 74, 109, 110, 111, 112, 113, 114, 115, 116, 117, 118, 119, 120, 121, 122, 123, 124, 125, 126] (by decide +kernel) (by decide +kernel)
set_option maxRecDepth 20000 in
theorem gX4_bestPlace_X4_tryMove : GoodIn wsX4_bestPlace (wsV RX4 93 RX4 yX4_tryMove wsX4_tryMove) := goodIn_app (goodIn_of _ (by decide +kernel)) ggX4_bestPlace_X4_tryMove
set_option maxRecDepth 20000 in
theorem ggX4_bestPlace_X1_followersOf : GoodIn wsX4_bestPlace wsX1_followersOf := goodIn_r _ [97, 40, 41, 98, 99, 100, 38, 101, 60, 123, 124, 125, 126, 113, 114, 115, 116, 117, 118, 119, 120, 121, 122] (by decide +kernel) (by decide +kernel)
set_option maxRecDepth 20000 in
theorem gX4_bestPlace_X1_followersOf : GoodIn wsX4_bestPlace (wsV RX4 102 RX1 yX1_followersOf wsX1_followersOf) := goodIn_app (goodIn_of _ (by decide +kernel)) ggX4_bestPlace_X1_followersOf
set_option maxRecDepth 20000 in
theorem ggX4_bestPlace_J6_bitCount_0f7a4 : GoodIn wsX4_bestPlace wsJ6_bitCount_0f7a4 := goodIn_r _ [105, 106, 107, 108] (by decide +kernel) (by decide +kernel)
set_option maxRecDepth 20000 in
theorem gX4_bestPlace_J6_bitCount_0f7a4 : GoodIn wsX4_bestPlace (va_wsS RX4 71 yJ6_bitCount_0f7a4 wsJ6_bitCount_0f7a4) := goodIn_app (goodIn_of _ (by decide +kernel)) ggX4_bestPlace_J6_bitCount_0f7a4
theorem dX4_bestPlace_0 : decode cX4_bestPlace 0 = .ok (.aload_n 0, 1) := by decide +kernel
theorem dX4_bestPlace_1 : decode cX4_bestPlace 1 = .ok (.getfield 12, 3) := by decide +kernel
theorem dX4_bestPlace_4 : decode cX4_bestPlace 4 = .ok (.aload_n 0, 1) := by decide +kernel
theorem dX4_bestPlace_5 : decode cX4_bestPlace 5 = .ok (.getfield 31, 3) := by decide +kernel
theorem dX4_bestPlace_8 : decode cX4_bestPlace 8 = .ok (.invokevirtual 34, 3) := by decide +kernel
theorem dX4_bestPlace_11 : decode cX4_bestPlace 11 = .ok (.aload_n 0, 1) := by decide +kernel
theorem dX4_bestPlace_12 : decode cX4_bestPlace 12 = .ok (.getfield 12, 3) := by decide +kernel
theorem dX4_bestPlace_15 : decode cX4_bestPlace 15 = .ok (.iconst 0, 1) := by decide +kernel
theorem dX4_bestPlace_16 : decode cX4_bestPlace 16 = .ok (.iconst 0, 1) := by decide +kernel
theorem dX4_bestPlace_17 : decode cX4_bestPlace 17 = .ok (.iconst 0, 1) := by decide +kernel
theorem dX4_bestPlace_18 : decode cX4_bestPlace 18 = .ok (.invokevirtual 98, 3) := by decide +kernel
theorem dX4_bestPlace_21 : decode cX4_bestPlace 21 = .ok (.istore_n 1, 1) := by decide +kernel
theorem dX4_bestPlace_22 : decode cX4_bestPlace 22 = .ok (.iload_n 1, 1) := by decide +kernel
theorem dX4_bestPlace_23 : decode cX4_bestPlace 23 = .ok (.iconst (-1), 1) := by decide +kernel
theorem dX4_bestPlace_24 : decode cX4_bestPlace 24 = .ok (.if_icmp .ne 5, 3) := by decide +kernel
theorem dX4_bestPlace_27 : decode cX4_bestPlace 27 = .ok (.iconst 0, 1) := by decide +kernel
theorem dX4_bestPlace_28 : decode cX4_bestPlace 28 = .ok (.ireturn, 1) := by decide +kernel
theorem dX4_bestPlace_29 : decode cX4_bestPlace 29 = .ok (.aload_n 0, 1) := by decide +kernel
theorem dX4_bestPlace_30 : decode cX4_bestPlace 30 = .ok (.getfield 23, 3) := by decide +kernel
theorem dX4_bestPlace_33 : decode cX4_bestPlace 33 = .ok (.invokevirtual 37, 3) := by decide +kernel
theorem dX4_bestPlace_36 : decode cX4_bestPlace 36 = .ok (.iconst 0, 1) := by decide +kernel
theorem dX4_bestPlace_37 : decode cX4_bestPlace 37 = .ok (.istore_n 2, 1) := by decide +kernel
theorem dX4_bestPlace_38 : decode cX4_bestPlace 38 = .ok (.iconst (-1), 1) := by decide +kernel
theorem dX4_bestPlace_39 : decode cX4_bestPlace 39 = .ok (.istore_n 3, 1) := by decide +kernel
theorem dX4_bestPlace_40 : decode cX4_bestPlace 40 = .ok (.iconst 0, 1) := by decide +kernel
theorem dX4_bestPlace_41 : decode cX4_bestPlace 41 = .ok (.istore 4, 2) := by decide +kernel
theorem dX4_bestPlace_43 : decode cX4_bestPlace 43 = .ok (.iload 4, 2) := by decide +kernel
theorem dX4_bestPlace_45 : decode cX4_bestPlace 45 = .ok (.sipush 144, 3) := by decide +kernel
theorem dX4_bestPlace_48 : decode cX4_bestPlace 48 = .ok (.if_icmp .ge 54, 3) := by decide +kernel
theorem dX4_bestPlace_51 : decode cX4_bestPlace 51 = .ok (.aload_n 0, 1) := by decide +kernel
theorem dX4_bestPlace_52 : decode cX4_bestPlace 52 = .ok (.getfield 31, 3) := by decide +kernel
theorem dX4_bestPlace_55 : decode cX4_bestPlace 55 = .ok (.iload 4, 2) := by decide +kernel
theorem dX4_bestPlace_57 : decode cX4_bestPlace 57 = .ok (.invokevirtual 90, 3) := by decide +kernel
theorem dX4_bestPlace_60 : decode cX4_bestPlace 60 = .ok (.iconst (-1), 1) := by decide +kernel
theorem dX4_bestPlace_61 : decode cX4_bestPlace 61 = .ok (.if_icmp .ne 35, 3) := by decide +kernel
theorem dX4_bestPlace_64 : decode cX4_bestPlace 64 = .ok (.aload_n 0, 1) := by decide +kernel
theorem dX4_bestPlace_65 : decode cX4_bestPlace 65 = .ok (.iload_n 1, 1) := by decide +kernel
theorem dX4_bestPlace_66 : decode cX4_bestPlace 66 = .ok (.iload 4, 2) := by decide +kernel
theorem dX4_bestPlace_68 : decode cX4_bestPlace 68 = .ok (.invokevirtual 93, 3) := by decide +kernel
theorem dX4_bestPlace_71 : decode cX4_bestPlace 71 = .ok (.aload_n 0, 1) := by decide +kernel
theorem dX4_bestPlace_72 : decode cX4_bestPlace 72 = .ok (.getfield 23, 3) := by decide +kernel
theorem dX4_bestPlace_75 : decode cX4_bestPlace 75 = .ok (.iload_n 1, 1) := by decide +kernel
theorem dX4_bestPlace_76 : decode cX4_bestPlace 76 = .ok (.invokevirtual 102, 3) := by decide +kernel
theorem dX4_bestPlace_79 : decode cX4_bestPlace 79 = .ok (.invokestatic 71, 3) := by decide +kernel
theorem dX4_bestPlace_82 : decode cX4_bestPlace 82 = .ok (.istore 5, 2) := by decide +kernel
theorem dX4_bestPlace_84 : decode cX4_bestPlace 84 = .ok (.iload 5, 2) := by decide +kernel
theorem dX4_bestPlace_86 : decode cX4_bestPlace 86 = .ok (.iload_n 3, 1) := by decide +kernel
theorem dX4_bestPlace_87 : decode cX4_bestPlace 87 = .ok (.if_icmp .le 9, 3) := by decide +kernel
theorem dX4_bestPlace_90 : decode cX4_bestPlace 90 = .ok (.iload 4, 2) := by decide +kernel
theorem dX4_bestPlace_92 : decode cX4_bestPlace 92 = .ok (.istore_n 2, 1) := by decide +kernel
theorem dX4_bestPlace_93 : decode cX4_bestPlace 93 = .ok (.iload 5, 2) := by decide +kernel
theorem dX4_bestPlace_95 : decode cX4_bestPlace 95 = .ok (.istore_n 3, 1) := by decide +kernel
theorem dX4_bestPlace_96 : decode cX4_bestPlace 96 = .ok (.iinc 4 1, 3) := by decide +kernel
theorem dX4_bestPlace_99 : decode cX4_bestPlace 99 = .ok (.goto (-56), 3) := by decide +kernel
theorem dX4_bestPlace_102 : decode cX4_bestPlace 102 = .ok (.sipush 1000, 3) := by decide +kernel
theorem dX4_bestPlace_105 : decode cX4_bestPlace 105 = .ok (.iload_n 3, 1) := by decide +kernel
theorem dX4_bestPlace_106 : decode cX4_bestPlace 106 = .ok (.iconst 0, 1) := by decide +kernel
theorem dX4_bestPlace_107 : decode cX4_bestPlace 107 = .ok (.invokestatic 105, 3) := by decide +kernel
theorem dX4_bestPlace_110 : decode cX4_bestPlace 110 = .ok (.imul, 1) := by decide +kernel
theorem dX4_bestPlace_111 : decode cX4_bestPlace 111 = .ok (.iload_n 2, 1) := by decide +kernel
theorem dX4_bestPlace_112 : decode cX4_bestPlace 112 = .ok (.iadd, 1) := by decide +kernel
theorem dX4_bestPlace_113 : decode cX4_bestPlace 113 = .ok (.ireturn, 1) := by decide +kernel
set_option maxRecDepth 20000 in
theorem ggX4_changedBy_X4_begin : GoodIn wsX4_changedBy wsX4_begin := goodIn_r _ [5, 6, 7, 8, 9, 10, 11, 12, 13, 14, 15, 16, 17, 18, 19, 20, 21, 22, 23, 24, 25, 26, 27, 28, 29, 30, 31, 32, 33, 34, 35, 36, 37, 38, 39, 40, 41, 42, 43, 44, 45, 46, 47, 48, 49, 50, 51, 52, 53, 54, 55, 56, 57, 58, 59, 60, 61, 62, 63, 64, 65, 66, 67, 68, 69, 70, 71, 91, 92, 93, 94, 95, 96, 97, 98, 99, 100, 101, 102, 103, 104, 105, 106, 107, 108] (by decide +kernel) (by decide +kernel)
set_option maxRecDepth 20000 in
theorem gX4_changedBy_X4_begin : GoodIn wsX4_changedBy (wsV RX4 80 RX4 yX4_begin wsX4_begin) := goodIn_app (goodIn_of _ (by decide +kernel)) ggX4_changedBy_X4_begin
set_option maxRecDepth 20000 in
theorem ggX4_changedBy_X4_tryMove : GoodIn wsX4_changedBy wsX4_tryMove := goodIn_r _ [75, 6, 76, 8, 77, 78, 79, 18, 80, 24, 81, 82, 83, 34, 84, 36, 37, 85, 38, 39, 40, 41, 42, 43, 44, 45, 46, 47, 28, 26, 48, 49, 50, 51, 27, 52, 53, 54, 55, 56, 57, 58, 59, 60, 61, 62, 63, 64, 65, 66, 67, 68, 69, 70, 71, 91, 92, 93, 94, 99, 100, 101, 102, 103, 104, 105, 106, 107, 108, 95, 96, 97, 98] (by decide +kernel) (by decide +kernel)
set_option maxRecDepth 20000 in
theorem gX4_changedBy_X4_tryMove : GoodIn wsX4_changedBy (wsV RX4 93 RX4 yX4_tryMove wsX4_tryMove) := goodIn_app (goodIn_of _ (by decide +kernel)) ggX4_changedBy_X4_tryMove
set_option maxRecDepth 20000 in
theorem ggX4_changedBy_X4_hearingOther : GoodIn wsX4_changedBy wsX4_hearingOther := goodIn_r _ [89, 6, 90, 8, 9, 10, 91, 92, 93, 94, 99, 100, 101, 102, 103, 104, 105, 106, 107, 108, 95, 96, 97, 98] (by decide +kernel) (by decide +kernel)
set_option maxRecDepth 20000 in
theorem gX4_changedBy_X4_hearingOther : GoodIn wsX4_changedBy (wsV RX4 110 RX4 yX4_hearingOther wsX4_hearingOther) := goodIn_app (goodIn_of _ (by decide +kernel)) ggX4_changedBy_X4_hearingOther
theorem dX4_changedBy_0 : decode cX4_changedBy 0 = .ok (.aload_n 0, 1) := by decide +kernel
theorem dX4_changedBy_1 : decode cX4_changedBy 1 = .ok (.invokevirtual 80, 3) := by decide +kernel
theorem dX4_changedBy_4 : decode cX4_changedBy 4 = .ok (.aload_n 0, 1) := by decide +kernel
theorem dX4_changedBy_5 : decode cX4_changedBy 5 = .ok (.iload_n 1, 1) := by decide +kernel
theorem dX4_changedBy_6 : decode cX4_changedBy 6 = .ok (.iload_n 2, 1) := by decide +kernel
theorem dX4_changedBy_7 : decode cX4_changedBy 7 = .ok (.invokevirtual 93, 3) := by decide +kernel
theorem dX4_changedBy_10 : decode cX4_changedBy 10 = .ok (.aload_n 0, 1) := by decide +kernel
theorem dX4_changedBy_11 : decode cX4_changedBy 11 = .ok (.invokevirtual 110, 3) := by decide +kernel
theorem dX4_changedBy_14 : decode cX4_changedBy 14 = .ok (.iconst 1, 1) := by decide +kernel
theorem dX4_changedBy_15 : decode cX4_changedBy 15 = .ok (.iload_n 1, 1) := by decide +kernel
theorem dX4_changedBy_16 : decode cX4_changedBy 16 = .ok (.ishl, 1) := by decide +kernel
theorem dX4_changedBy_17 : decode cX4_changedBy 17 = .ok (.iconst (-1), 1) := by decide +kernel
theorem dX4_changedBy_18 : decode cX4_changedBy 18 = .ok (.ixor, 1) := by decide +kernel
theorem dX4_changedBy_19 : decode cX4_changedBy 19 = .ok (.iand, 1) := by decide +kernel
theorem dX4_changedBy_20 : decode cX4_changedBy 20 = .ok (.ireturn, 1) := by decide +kernel
set_option maxRecDepth 20000 in
theorem ggX4_stillYards_X4_begin : GoodIn wsX4_stillYards wsX4_begin := goodIn_r _ [6, 7, 1, 8, 9, 10, 11, 12, 13, 14, 15, 16, 17, 18, 19, 20, 21, 22, 23, 24, 25, 26, 27, 28, 29, 30, 31, 32, 33, 34, 35, 36, 37, 38, 39, 40, 41, 42, 43, 44, 45, 46, 47, 48, 49, 50, 51, 52, 53, 54, 55, 56, 57, 58, 59, 60, 61, 62, 63, 64, 65, 66, 67, 68, 69, 70, 71, 95, 96, 97, 98, 99, 100, 101, 102, 103, 104, 105, 106, 107, 108, 109, 110, 111, 112] (by decide +kernel) (by decide +kernel)
set_option maxRecDepth 20000 in
theorem gX4_stillYards_X4_begin : GoodIn wsX4_stillYards (wsV RX4 80 RX4 yX4_begin wsX4_begin) := goodIn_app (goodIn_of _ (by decide +kernel)) ggX4_stillYards_X4_begin
set_option maxRecDepth 20000 in
theorem ggX4_stillYards_X0_tentOn : GoodIn wsX4_stillYards wsX0_tentOn := goodIn_r _ [75, 24, 22, 103, 104, 105, 106, 107, 108, 109, 110, 111, 112] (by decide +kernel) (by decide +kernel)
set_option maxRecDepth 20000 in
theorem gX4_stillYards_X0_tentOn : GoodIn wsX4_stillYards (wsV RX4 90 RX0 yX0_tentOn wsX0_tentOn) := goodIn_app (goodIn_of _ (by decide +kernel)) ggX4_stillYards_X0_tentOn
set_option maxRecDepth 20000 in
theorem ggX4_stillYards_X4_tryMove : GoodIn wsX4_stillYards wsX4_tryMove := goodIn_r _ [79, 7, 80, 8, 81, 82, 83, 18, 84, 24, 85, 86, 87, 34, 88, 36, 37, 89, 38, 39, 40, 41, 42, 43, 44, 45, 46, 47, 28, 26, 48, 49, 50, 51, 27, 52, 53, 54, 55, 56, 57, 58, 59, 60, 61, 62, 63, 64, 65, 66, 67, 68, 69, 70, 71, 95, 96, 97, 98, 103, 104, 105, 106, 107, 108, 109, 110, 111, 112, 99, 100, 101, 102] (by decide +kernel) (by decide +kernel)
set_option maxRecDepth 20000 in
theorem gX4_stillYards_X4_tryMove : GoodIn wsX4_stillYards (wsV RX4 93 RX4 yX4_tryMove wsX4_tryMove) := goodIn_app (goodIn_of _ (by decide +kernel)) ggX4_stillYards_X4_tryMove
set_option maxRecDepth 20000 in
theorem ggX4_stillYards_X4_hearingOther : GoodIn wsX4_stillYards wsX4_hearingOther := goodIn_r _ [93, 7, 94, 8, 9, 10, 95, 96, 97, 98, 103, 104, 105, 106, 107, 108, 109, 110, 111, 112, 99, 100, 101, 102] (by decide +kernel) (by decide +kernel)
set_option maxRecDepth 20000 in
theorem gX4_stillYards_X4_hearingOther : GoodIn wsX4_stillYards (wsV RX4 110 RX4 yX4_hearingOther wsX4_hearingOther) := goodIn_app (goodIn_of _ (by decide +kernel)) ggX4_stillYards_X4_hearingOther
theorem dX4_stillYards_0 : decode cX4_stillYards 0 = .ok (.aload_n 0, 1) := by decide +kernel
theorem dX4_stillYards_1 : decode cX4_stillYards 1 = .ok (.invokevirtual 80, 3) := by decide +kernel
theorem dX4_stillYards_4 : decode cX4_stillYards 4 = .ok (.iconst 0, 1) := by decide +kernel
theorem dX4_stillYards_5 : decode cX4_stillYards 5 = .ok (.istore_n 2, 1) := by decide +kernel
theorem dX4_stillYards_6 : decode cX4_stillYards 6 = .ok (.iconst 0, 1) := by decide +kernel
theorem dX4_stillYards_7 : decode cX4_stillYards 7 = .ok (.istore_n 3, 1) := by decide +kernel
theorem dX4_stillYards_8 : decode cX4_stillYards 8 = .ok (.iload_n 3, 1) := by decide +kernel
theorem dX4_stillYards_9 : decode cX4_stillYards 9 = .ok (.sipush 144, 3) := by decide +kernel
theorem dX4_stillYards_12 : decode cX4_stillYards 12 = .ok (.if_icmp .ge 37, 3) := by decide +kernel
theorem dX4_stillYards_15 : decode cX4_stillYards 15 = .ok (.aload_n 0, 1) := by decide +kernel
theorem dX4_stillYards_16 : decode cX4_stillYards 16 = .ok (.getfield 31, 3) := by decide +kernel
theorem dX4_stillYards_19 : decode cX4_stillYards 19 = .ok (.iload_n 3, 1) := by decide +kernel
theorem dX4_stillYards_20 : decode cX4_stillYards 20 = .ok (.invokevirtual 90, 3) := by decide +kernel
theorem dX4_stillYards_23 : decode cX4_stillYards 23 = .ok (.iconst (-1), 1) := by decide +kernel
theorem dX4_stillYards_24 : decode cX4_stillYards 24 = .ok (.if_icmp .ne 19, 3) := by decide +kernel
theorem dX4_stillYards_27 : decode cX4_stillYards 27 = .ok (.aload_n 0, 1) := by decide +kernel
theorem dX4_stillYards_28 : decode cX4_stillYards 28 = .ok (.iload_n 1, 1) := by decide +kernel
theorem dX4_stillYards_29 : decode cX4_stillYards 29 = .ok (.iload_n 3, 1) := by decide +kernel
theorem dX4_stillYards_30 : decode cX4_stillYards 30 = .ok (.invokevirtual 93, 3) := by decide +kernel
theorem dX4_stillYards_33 : decode cX4_stillYards 33 = .ok (.aload_n 0, 1) := by decide +kernel
theorem dX4_stillYards_34 : decode cX4_stillYards 34 = .ok (.invokevirtual 110, 3) := by decide +kernel
theorem dX4_stillYards_37 : decode cX4_stillYards 37 = .ok (.ifCond .ne 6, 3) := by decide +kernel
theorem dX4_stillYards_40 : decode cX4_stillYards 40 = .ok (.iinc 2 1, 3) := by decide +kernel
theorem dX4_stillYards_43 : decode cX4_stillYards 43 = .ok (.iinc 3 1, 3) := by decide +kernel
theorem dX4_stillYards_46 : decode cX4_stillYards 46 = .ok (.goto (-38), 3) := by decide +kernel
theorem dX4_stillYards_49 : decode cX4_stillYards 49 = .ok (.iload_n 2, 1) := by decide +kernel
theorem dX4_stillYards_50 : decode cX4_stillYards 50 = .ok (.ireturn, 1) := by decide +kernel
set_option maxRecDepth 20000 in
theorem ggX4_keyTent_X0_become : GoodIn wsX4_keyTent wsX0_become := goodIn_r _ [10, 11, 12, 13, 14, 15, 16, 17, 18, 19, 20, 21, 22, 23, 24, 90, 91, 92, 93, 94, 95, 96, 97, 98, 99] (by decide +kernel) (by decide +kernel)
set_option maxRecDepth 20000 in
theorem gX4_keyTent_X0_become : GoodIn wsX4_keyTent (wsV RX4 34 RX0 yX0_become wsX0_become) := goodIn_app (goodIn_of _ (by decide +kernel)) ggX4_keyTent_X0_become
set_option maxRecDepth 20000 in
theorem ggX4_keyTent_X0_strike : GoodIn wsX4_keyTent wsX0_strike := goodIn_r _ [28, 18, 11, 16, 29, 30, 31, 9, 32, 90, 91, 92, 93, 94, 95, 96, 97, 98, 99] (by decide +kernel) (by decide +kernel)
set_option maxRecDepth 20000 in
theorem gX4_keyTent_X0_strike : GoodIn wsX4_keyTent (wsV RX4 114 RX0 yX0_strike wsX0_strike) := goodIn_app (goodIn_of _ (by decide +kernel)) ggX4_keyTent_X0_strike
set_option maxRecDepth 20000 in
theorem ggX4_keyTent_X1_listen : GoodIn wsX4_keyTent wsX1_listen := goodIn_r _ [37, 38, 39, 40, 41, 42, 36, 43, 44, 45, 46, 47, 48, 9, 49, 22, 20, 50, 51, 52, 53, 21, 54, 55, 56, 57, 58, 59, 60, 61, 62, 63, 64, 65, 66, 67, 68, 69, 70, 71, 72, 73, 100, 101, 102, 103, 90, 91, 92, 93, 94, 95, 96, 97, 98, 99] (by decide +kernel) (by decide +kernel)
set_option maxRecDepth 20000 in
theorem gX4_keyTent_X1_listen : GoodIn wsX4_keyTent (wsV RX4 37 RX1 yX1_listen wsX1_listen) := goodIn_app (goodIn_of _ (by decide +kernel)) ggX4_keyTent_X1_listen
set_option maxRecDepth 20000 in
theorem ggX4_keyTent_X1_countLined : GoodIn wsX4_keyTent wsX1_countLined := goodIn_r _ [77, 38, 39, 78, 79, 80, 36, 81, 59, 82, 83, 84, 85, 100, 101, 102, 103, 90, 91, 92, 93, 94, 95, 96, 97, 98, 99] (by decide +kernel) (by decide +kernel)
set_option maxRecDepth 20000 in
theorem gX4_keyTent_X1_countLined : GoodIn wsX4_keyTent (wsV RX4 117 RX1 yX1_countLined wsX1_countLined) := goodIn_app (goodIn_of _ (by decide +kernel)) ggX4_keyTent_X1_countLined
theorem dX4_keyTent_0 : decode cX4_keyTent 0 = .ok (.iconst (-1), 1) := by decide +kernel
theorem dX4_keyTent_1 : decode cX4_keyTent 1 = .ok (.istore_n 1, 1) := by decide +kernel
theorem dX4_keyTent_2 : decode cX4_keyTent 2 = .ok (.ldc 86, 2) := by decide +kernel
theorem dX4_keyTent_4 : decode cX4_keyTent 4 = .ok (.istore_n 2, 1) := by decide +kernel
theorem dX4_keyTent_5 : decode cX4_keyTent 5 = .ok (.iconst 0, 1) := by decide +kernel
theorem dX4_keyTent_6 : decode cX4_keyTent 6 = .ok (.istore_n 3, 1) := by decide +kernel
theorem dX4_keyTent_7 : decode cX4_keyTent 7 = .ok (.iload_n 3, 1) := by decide +kernel
theorem dX4_keyTent_8 : decode cX4_keyTent 8 = .ok (.aload_n 0, 1) := by decide +kernel
theorem dX4_keyTent_9 : decode cX4_keyTent 9 = .ok (.getfield 31, 3) := by decide +kernel
theorem dX4_keyTent_12 : decode cX4_keyTent 12 = .ok (.getfield 60, 3) := by decide +kernel
theorem dX4_keyTent_15 : decode cX4_keyTent 15 = .ok (.if_icmp .ge 55, 3) := by decide +kernel
theorem dX4_keyTent_18 : decode cX4_keyTent 18 = .ok (.aload_n 0, 1) := by decide +kernel
theorem dX4_keyTent_19 : decode cX4_keyTent 19 = .ok (.getfield 12, 3) := by decide +kernel
theorem dX4_keyTent_22 : decode cX4_keyTent 22 = .ok (.aload_n 0, 1) := by decide +kernel
theorem dX4_keyTent_23 : decode cX4_keyTent 23 = .ok (.getfield 31, 3) := by decide +kernel
theorem dX4_keyTent_26 : decode cX4_keyTent 26 = .ok (.invokevirtual 34, 3) := by decide +kernel
theorem dX4_keyTent_29 : decode cX4_keyTent 29 = .ok (.aload_n 0, 1) := by decide +kernel
theorem dX4_keyTent_30 : decode cX4_keyTent 30 = .ok (.getfield 12, 3) := by decide +kernel
theorem dX4_keyTent_33 : decode cX4_keyTent 33 = .ok (.iload_n 3, 1) := by decide +kernel
theorem dX4_keyTent_34 : decode cX4_keyTent 34 = .ok (.invokevirtual 114, 3) := by decide +kernel
theorem dX4_keyTent_37 : decode cX4_keyTent 37 = .ok (.aload_n 0, 1) := by decide +kernel
theorem dX4_keyTent_38 : decode cX4_keyTent 38 = .ok (.getfield 23, 3) := by decide +kernel
theorem dX4_keyTent_41 : decode cX4_keyTent 41 = .ok (.invokevirtual 37, 3) := by decide +kernel
theorem dX4_keyTent_44 : decode cX4_keyTent 44 = .ok (.aload_n 0, 1) := by decide +kernel
theorem dX4_keyTent_45 : decode cX4_keyTent 45 = .ok (.getfield 23, 3) := by decide +kernel
theorem dX4_keyTent_48 : decode cX4_keyTent 48 = .ok (.invokevirtual 117, 3) := by decide +kernel
theorem dX4_keyTent_51 : decode cX4_keyTent 51 = .ok (.istore 4, 2) := by decide +kernel
theorem dX4_keyTent_53 : decode cX4_keyTent 53 = .ok (.iload 4, 2) := by decide +kernel
theorem dX4_keyTent_55 : decode cX4_keyTent 55 = .ok (.iload_n 2, 1) := by decide +kernel
theorem dX4_keyTent_56 : decode cX4_keyTent 56 = .ok (.if_icmp .ge 8, 3) := by decide +kernel
theorem dX4_keyTent_59 : decode cX4_keyTent 59 = .ok (.iload_n 3, 1) := by decide +kernel
theorem dX4_keyTent_60 : decode cX4_keyTent 60 = .ok (.istore_n 1, 1) := by decide +kernel
theorem dX4_keyTent_61 : decode cX4_keyTent 61 = .ok (.iload 4, 2) := by decide +kernel
theorem dX4_keyTent_63 : decode cX4_keyTent 63 = .ok (.istore_n 2, 1) := by decide +kernel
theorem dX4_keyTent_64 : decode cX4_keyTent 64 = .ok (.iinc 3 1, 3) := by decide +kernel
theorem dX4_keyTent_67 : decode cX4_keyTent 67 = .ok (.goto (-60), 3) := by decide +kernel
theorem dX4_keyTent_70 : decode cX4_keyTent 70 = .ok (.iload_n 1, 1) := by decide +kernel
theorem dX4_keyTent_71 : decode cX4_keyTent 71 = .ok (.ireturn, 1) := by decide +kernel
set_option maxRecDepth 20000 in
theorem ggX4_hearingOtherByWall_X0_become : GoodIn wsX4_hearingOtherByWall wsX0_become := goodIn_r _ [15, 16, 17, 8, 9, 10, 18, 19, 20, 21, 22, 23, 24, 25, 26, 78, 79, 80, 81, 82, 83, 84, 85, 86, 87] (by decide +kernel) (by decide +kernel)
set_option maxRecDepth 20000 in
theorem gX4_hearingOtherByWall_X0_become : GoodIn wsX4_hearingOtherByWall (wsV RX4 34 RX0 yX0_become wsX0_become) := goodIn_app (goodIn_of _ (by decide +kernel)) ggX4_hearingOtherByWall_X0_become
set_option maxRecDepth 20000 in
theorem ggX4_hearingOtherByWall_X1_listen : GoodIn wsX4_hearingOtherByWall wsX1_listen := goodIn_r _ [31, 32, 33, 34, 35, 36, 30, 37, 38, 39, 40, 41, 42, 14, 43, 24, 22, 44, 45, 46, 47, 23, 48, 49, 50, 51, 52, 53, 54, 55, 56, 57, 58, 59, 60, 61, 62, 63, 64, 65, 66, 67, 88, 89, 90, 91, 78, 79, 80, 81, 82, 83, 84, 85, 86, 87] (by decide +kernel) (by decide +kernel)
set_option maxRecDepth 20000 in
theorem gX4_hearingOtherByWall_X1_listen : GoodIn wsX4_hearingOtherByWall (wsV RX4 37 RX1 yX1_listen wsX1_listen) := goodIn_app (goodIn_of _ (by decide +kernel)) ggX4_hearingOtherByWall_X1_listen
set_option maxRecDepth 20000 in
theorem ggX4_hearingOtherByWall_X4_hearingOther : GoodIn wsX4_hearingOtherByWall wsX4_hearingOther := goodIn_r _ [72, 1, 73, 4, 5, 6, 74, 75, 76, 77, 78, 79, 80, 81, 82, 83, 84, 85, 86, 87, 88, 89, 90, 91] (by decide +kernel) (by decide +kernel)
set_option maxRecDepth 20000 in
theorem gX4_hearingOtherByWall_X4_hearingOther : GoodIn wsX4_hearingOtherByWall (wsV RX4 110 RX4 yX4_hearingOther wsX4_hearingOther) := goodIn_app (goodIn_of _ (by decide +kernel)) ggX4_hearingOtherByWall_X4_hearingOther
theorem dX4_hearingOtherByWall_0 : decode cX4_hearingOtherByWall 0 = .ok (.aload_n 0, 1) := by decide +kernel
theorem dX4_hearingOtherByWall_1 : decode cX4_hearingOtherByWall 1 = .ok (.getfield 12, 3) := by decide +kernel
theorem dX4_hearingOtherByWall_4 : decode cX4_hearingOtherByWall 4 = .ok (.aload_n 0, 1) := by decide +kernel
theorem dX4_hearingOtherByWall_5 : decode cX4_hearingOtherByWall 5 = .ok (.getfield 31, 3) := by decide +kernel
theorem dX4_hearingOtherByWall_8 : decode cX4_hearingOtherByWall 8 = .ok (.invokevirtual 34, 3) := by decide +kernel
theorem dX4_hearingOtherByWall_11 : decode cX4_hearingOtherByWall 11 = .ok (.aload_n 0, 1) := by decide +kernel
theorem dX4_hearingOtherByWall_12 : decode cX4_hearingOtherByWall 12 = .ok (.getfield 12, 3) := by decide +kernel
theorem dX4_hearingOtherByWall_15 : decode cX4_hearingOtherByWall 15 = .ok (.iconst 1, 1) := by decide +kernel
theorem dX4_hearingOtherByWall_16 : decode cX4_hearingOtherByWall 16 = .ok (.putfield 120, 3) := by decide +kernel
theorem dX4_hearingOtherByWall_19 : decode cX4_hearingOtherByWall 19 = .ok (.aload_n 0, 1) := by decide +kernel
theorem dX4_hearingOtherByWall_20 : decode cX4_hearingOtherByWall 20 = .ok (.getfield 23, 3) := by decide +kernel
theorem dX4_hearingOtherByWall_23 : decode cX4_hearingOtherByWall 23 = .ok (.invokevirtual 37, 3) := by decide +kernel
theorem dX4_hearingOtherByWall_26 : decode cX4_hearingOtherByWall 26 = .ok (.aload_n 0, 1) := by decide +kernel
theorem dX4_hearingOtherByWall_27 : decode cX4_hearingOtherByWall 27 = .ok (.getfield 23, 3) := by decide +kernel
theorem dX4_hearingOtherByWall_30 : decode cX4_hearingOtherByWall 30 = .ok (.getfield 40, 3) := by decide +kernel
theorem dX4_hearingOtherByWall_33 : decode cX4_hearingOtherByWall 33 = .ok (.iconst 0, 1) := by decide +kernel
theorem dX4_hearingOtherByWall_34 : decode cX4_hearingOtherByWall 34 = .ok (.aload_n 0, 1) := by decide +kernel
theorem dX4_hearingOtherByWall_35 : decode cX4_hearingOtherByWall 35 = .ok (.getfield 27, 3) := by decide +kernel
theorem dX4_hearingOtherByWall_38 : decode cX4_hearingOtherByWall 38 = .ok (.iconst 0, 1) := by decide +kernel
theorem dX4_hearingOtherByWall_39 : decode cX4_hearingOtherByWall 39 = .ok (.bipush 10, 2) := by decide +kernel
theorem dX4_hearingOtherByWall_41 : decode cX4_hearingOtherByWall 41 = .ok (.invokestatic 43, 3) := by decide +kernel
theorem dX4_hearingOtherByWall_44 : decode cX4_hearingOtherByWall 44 = .ok (.aload_n 0, 1) := by decide +kernel
theorem dX4_hearingOtherByWall_45 : decode cX4_hearingOtherByWall 45 = .ok (.getfield 12, 3) := by decide +kernel
theorem dX4_hearingOtherByWall_48 : decode cX4_hearingOtherByWall 48 = .ok (.iconst 0, 1) := by decide +kernel
theorem dX4_hearingOtherByWall_49 : decode cX4_hearingOtherByWall 49 = .ok (.putfield 120, 3) := by decide +kernel
theorem dX4_hearingOtherByWall_52 : decode cX4_hearingOtherByWall 52 = .ok (.aload_n 0, 1) := by decide +kernel
theorem dX4_hearingOtherByWall_53 : decode cX4_hearingOtherByWall 53 = .ok (.getfield 23, 3) := by decide +kernel
theorem dX4_hearingOtherByWall_56 : decode cX4_hearingOtherByWall 56 = .ok (.invokevirtual 37, 3) := by decide +kernel
theorem dX4_hearingOtherByWall_59 : decode cX4_hearingOtherByWall 59 = .ok (.aload_n 0, 1) := by decide +kernel
theorem dX4_hearingOtherByWall_60 : decode cX4_hearingOtherByWall 60 = .ok (.invokevirtual 110, 3) := by decide +kernel
theorem dX4_hearingOtherByWall_63 : decode cX4_hearingOtherByWall 63 = .ok (.ireturn, 1) := by decide +kernel
set_option maxRecDepth 20000 in
theorem ggX4_bestKind_X4_begin : GoodIn wsX4_bestKind wsX4_begin := goodIn_r _ [8, 1, 9, 3, 10, 11, 12, 13, 14, 15, 16, 17, 18, 19, 20, 21, 22, 23, 24, 25, 26, 27, 28, 29, 30, 31, 32, 33, 34, 35, 36, 37, 38, 39, 40, 41, 42, 43, 44, 45, 46, 47, 48, 49, 50, 51, 52, 53, 54, 55, 56, 57, 58, 59, 60, 61, 62, 63, 64, 65, 66, 67, 68, 69, 70, 71, 72, 101, 102, 103, 104, 115, 116, 117, 118, 105, 106, 107, 108, 109, 110, 111, 112, 113, 114] (by decide +kernel) (by decide +kernel)
set_option maxRecDepth 20000 in
theorem gX4_bestKind_X4_begin : GoodIn wsX4_bestKind (wsV RX4 80 RX4 yX4_begin wsX4_begin) := goodIn_app (goodIn_of _ (by decide +kernel)) ggX4_bestKind_X4_begin
set_option maxRecDepth 20000 in
theorem ggX4_bestKind_J7_fill_53178 : GoodIn wsX4_bestKind wsJ7_fill_53178 := goodIn_r _ [76] (by decide +kernel) (by decide +kernel)
set_option maxRecDepth 20000 in
theorem gX4_bestKind_J7_fill_53178 : GoodIn wsX4_bestKind (va_wsS RX4 127 yJ7_fill_53178 wsJ7_fill_53178) := goodIn_app (goodIn_of _ (by decide +kernel)) ggX4_bestKind_J7_fill_53178
set_option maxRecDepth 20000 in
theorem ggX4_bestKind_X1_listen : GoodIn wsX4_bestKind wsX1_listen := goodIn_r _ [36, 37, 38, 39, 40, 41, 35, 42, 43, 44, 45, 46, 47, 19, 48, 29, 27, 49, 50, 51, 52, 28, 53, 54, 55, 56, 57, 58, 59, 60, 61, 62, 63, 64, 65, 66, 67, 68, 69, 70, 71, 72, 115, 116, 117, 118, 105, 106, 107, 108, 109, 110, 111, 112, 113, 114] (by decide +kernel) (by decide +kernel)
set_option maxRecDepth 20000 in
theorem gX4_bestKind_X1_listen : GoodIn wsX4_bestKind (wsV RX4 37 RX1 yX1_listen wsX1_listen) := goodIn_app (goodIn_of _ (by decide +kernel)) ggX4_bestKind_X1_listen
set_option maxRecDepth 20000 in
theorem ggX4_bestKind_X4_voteAfter : GoodIn wsX4_bestKind wsX4_voteAfter := goodIn_r _ [80, 3, 1, 81, 82, 83, 84, 35, 85, 86, 87, 88, 89, 37, 38, 90, 91, 92, 93, 68, 58, 57, 94, 95, 96, 97, 98, 99, 100, 101, 102, 103, 104, 105, 106, 107, 108, 109, 110, 111, 112, 113, 114, 115, 116, 117, 118] (by decide +kernel) (by decide +kernel)
set_option maxRecDepth 20000 in
theorem gX4_bestKind_X4_voteAfter : GoodIn wsX4_bestKind (wsV RX4 77 RX4 yX4_voteAfter wsX4_voteAfter) := goodIn_app (goodIn_of _ (by decide +kernel)) ggX4_bestKind_X4_voteAfter
theorem dX4_bestKind_0 : decode cX4_bestKind 0 = .ok (.aload_n 0, 1) := by decide +kernel
theorem dX4_bestKind_1 : decode cX4_bestKind 1 = .ok (.invokevirtual 80, 3) := by decide +kernel
theorem dX4_bestKind_4 : decode cX4_bestKind 4 = .ok (.iconst 0, 1) := by decide +kernel
theorem dX4_bestKind_5 : decode cX4_bestKind 5 = .ok (.istore_n 2, 1) := by decide +kernel
theorem dX4_bestKind_6 : decode cX4_bestKind 6 = .ok (.iconst (-1), 1) := by decide +kernel
theorem dX4_bestKind_7 : decode cX4_bestKind 7 = .ok (.istore_n 3, 1) := by decide +kernel
theorem dX4_bestKind_8 : decode cX4_bestKind 8 = .ok (.iconst 0, 1) := by decide +kernel
theorem dX4_bestKind_9 : decode cX4_bestKind 9 = .ok (.istore 4, 2) := by decide +kernel
theorem dX4_bestKind_11 : decode cX4_bestKind 11 = .ok (.iload 4, 2) := by decide +kernel
theorem dX4_bestKind_13 : decode cX4_bestKind 13 = .ok (.bipush 7, 2) := by decide +kernel
theorem dX4_bestKind_15 : decode cX4_bestKind 15 = .ok (.if_icmp .ge 47, 3) := by decide +kernel
theorem dX4_bestKind_18 : decode cX4_bestKind 18 = .ok (.aload_n 0, 1) := by decide +kernel
theorem dX4_bestKind_19 : decode cX4_bestKind 19 = .ok (.getfield 12, 3) := by decide +kernel
theorem dX4_bestKind_22 : decode cX4_bestKind 22 = .ok (.getfield 124, 3) := by decide +kernel
theorem dX4_bestKind_25 : decode cX4_bestKind 25 = .ok (.iload 4, 2) := by decide +kernel
theorem dX4_bestKind_27 : decode cX4_bestKind 27 = .ok (.invokestatic 127, 3) := by decide +kernel
theorem dX4_bestKind_30 : decode cX4_bestKind 30 = .ok (.aload_n 0, 1) := by decide +kernel
theorem dX4_bestKind_31 : decode cX4_bestKind 31 = .ok (.getfield 23, 3) := by decide +kernel
theorem dX4_bestKind_34 : decode cX4_bestKind 34 = .ok (.invokevirtual 37, 3) := by decide +kernel
theorem dX4_bestKind_37 : decode cX4_bestKind 37 = .ok (.aload_n 0, 1) := by decide +kernel
theorem dX4_bestKind_38 : decode cX4_bestKind 38 = .ok (.iload_n 1, 1) := by decide +kernel
theorem dX4_bestKind_39 : decode cX4_bestKind 39 = .ok (.invokevirtual 77, 3) := by decide +kernel
theorem dX4_bestKind_42 : decode cX4_bestKind 42 = .ok (.istore 5, 2) := by decide +kernel
theorem dX4_bestKind_44 : decode cX4_bestKind 44 = .ok (.iload 5, 2) := by decide +kernel
theorem dX4_bestKind_46 : decode cX4_bestKind 46 = .ok (.iload_n 3, 1) := by decide +kernel
theorem dX4_bestKind_47 : decode cX4_bestKind 47 = .ok (.if_icmp .le 9, 3) := by decide +kernel
theorem dX4_bestKind_50 : decode cX4_bestKind 50 = .ok (.iload 4, 2) := by decide +kernel
theorem dX4_bestKind_52 : decode cX4_bestKind 52 = .ok (.istore_n 2, 1) := by decide +kernel
theorem dX4_bestKind_53 : decode cX4_bestKind 53 = .ok (.iload 5, 2) := by decide +kernel
theorem dX4_bestKind_55 : decode cX4_bestKind 55 = .ok (.istore_n 3, 1) := by decide +kernel
theorem dX4_bestKind_56 : decode cX4_bestKind 56 = .ok (.iinc 4 1, 3) := by decide +kernel
theorem dX4_bestKind_59 : decode cX4_bestKind 59 = .ok (.goto (-48), 3) := by decide +kernel
theorem dX4_bestKind_62 : decode cX4_bestKind 62 = .ok (.iload_n 2, 1) := by decide +kernel
theorem dX4_bestKind_63 : decode cX4_bestKind 63 = .ok (.ireturn, 1) := by decide +kernel
set_option maxRecDepth 20000 in
theorem ggX4_explainingMoves_X4_begin : GoodIn wsX4_explainingMoves wsX4_begin := goodIn_r _ [12, 2, 5, 1, 13, 14, 15, 16, 17, 18, 19, 20, 21, 22, 23, 24, 25, 26, 27, 28, 29, 30, 31, 32, 33, 34, 35, 36, 37, 38, 39, 40, 41, 42, 43, 44, 45, 46, 47, 48, 49, 50, 51, 52, 53, 54, 55, 56, 57, 58, 59, 60, 61, 62, 63, 64, 65, 66, 67, 68, 69, 70, 71, 72, 73, 74, 75, 105, 106, 107, 108, 119, 120, 121, 122, 109, 110, 111, 112, 113, 114, 115, 116, 117, 118] (by decide +kernel) (by decide +kernel)
set_option maxRecDepth 20000 in
theorem gX4_explainingMoves_X4_begin : GoodIn wsX4_explainingMoves (wsV RX4 80 RX4 yX4_begin wsX4_begin) := goodIn_app (goodIn_of _ (by decide +kernel)) ggX4_explainingMoves_X4_begin
set_option maxRecDepth 20000 in
theorem ggX4_explainingMoves_X1_nextSaid : GoodIn wsX4_explainingMoves wsX1_nextSaid := goodIn_r _ [79, 40, 41, 80, 81, 82, 38, 83, 71, 61, 60, 119, 120, 121, 122, 109, 110, 111, 112, 113, 114, 115, 116, 117, 118] (by decide +kernel) (by decide +kernel)
set_option maxRecDepth 20000 in
theorem gX4_explainingMoves_X1_nextSaid : GoodIn wsX4_explainingMoves (wsV RX4 133 RX1 yX1_nextSaid wsX1_nextSaid) := goodIn_app (goodIn_of _ (by decide +kernel)) ggX4_explainingMoves_X1_nextSaid
set_option maxRecDepth 20000 in
theorem ggX4_explainingMoves_X4_isWithin : GoodIn wsX4_explainingMoves wsX4_isWithin := goodIn_r _ [86, 87, 53, 54, 55] (by decide +kernel) (by decide +kernel)
set_option maxRecDepth 20000 in
theorem gX4_explainingMoves_X4_isWithin : GoodIn wsX4_explainingMoves (va_wsS RX4 136 yX4_isWithin wsX4_isWithin) := goodIn_app (goodIn_of _ (by decide +kernel)) ggX4_explainingMoves_X4_isWithin
set_option maxRecDepth 20000 in
theorem ggX4_explainingMoves_X0_tentOn : GoodIn wsX4_explainingMoves wsX0_tentOn := goodIn_r _ [91, 28, 26, 109, 110, 111, 112, 113, 114, 115, 116, 117, 118] (by decide +kernel) (by decide +kernel)
set_option maxRecDepth 20000 in
theorem gX4_explainingMoves_X0_tentOn : GoodIn wsX4_explainingMoves (wsV RX4 90 RX0 yX0_tentOn wsX0_tentOn) := goodIn_app (goodIn_of _ (by decide +kernel)) ggX4_explainingMoves_X0_tentOn
set_option maxRecDepth 20000 in
theorem ggX4_explainingMoves_X4_tryMove : GoodIn wsX4_explainingMoves wsX4_tryMove := goodIn_r _ [95, 2, 7, 1, 96, 97, 98, 22, 99, 28, 100, 101, 102, 38, 103, 40, 41, 104, 42, 43, 44, 45, 46, 47, 48, 49, 50, 51, 32, 30, 52, 53, 54, 55, 31, 56, 57, 58, 59, 60, 61, 62, 63, 64, 65, 66, 67, 68, 69, 70, 71, 72, 73, 74, 75, 105, 106, 107, 108, 109, 110, 111, 112, 113, 114, 115, 116, 117, 118, 119, 120, 121, 122] (by decide +kernel) (by decide +kernel)
set_option maxRecDepth 20000 in
theorem gX4_explainingMoves_X4_tryMove : GoodIn wsX4_explainingMoves (wsV RX4 93 RX4 yX4_tryMove wsX4_tryMove) := goodIn_app (goodIn_of _ (by decide +kernel)) ggX4_explainingMoves_X4_tryMove
theorem dX4_explainingMoves_0 : decode cX4_explainingMoves 0 = .ok (.aload_n 0, 1) := by decide +kernel
theorem dX4_explainingMoves_1 : decode cX4_explainingMoves 1 = .ok (.invokevirtual 80, 3) := by decide +kernel
theorem dX4_explainingMoves_4 : decode cX4_explainingMoves 4 = .ok (.iload_n 2, 1) := by decide +kernel
theorem dX4_explainingMoves_5 : decode cX4_explainingMoves 5 = .ok (.ifCond .ne 28, 3) := by decide +kernel
theorem dX4_explainingMoves_8 : decode cX4_explainingMoves 8 = .ok (.aload_n 0, 1) := by decide +kernel
theorem dX4_explainingMoves_9 : decode cX4_explainingMoves 9 = .ok (.getfield 23, 3) := by decide +kernel
theorem dX4_explainingMoves_12 : decode cX4_explainingMoves 12 = .ok (.aload_n 0, 1) := by decide +kernel
theorem dX4_explainingMoves_13 : decode cX4_explainingMoves 13 = .ok (.getfield 12, 3) := by decide +kernel
theorem dX4_explainingMoves_16 : decode cX4_explainingMoves 16 = .ok (.getfield 64, 3) := by decide +kernel
theorem dX4_explainingMoves_19 : decode cX4_explainingMoves 19 = .ok (.invokevirtual 133, 3) := by decide +kernel
theorem dX4_explainingMoves_22 : decode cX4_explainingMoves 22 = .ok (.iload_n 1, 1) := by decide +kernel
theorem dX4_explainingMoves_23 : decode cX4_explainingMoves 23 = .ok (.if_icmp .ne 8, 3) := by decide +kernel
theorem dX4_explainingMoves_26 : decode cX4_explainingMoves 26 = .ok (.ldc 97, 2) := by decide +kernel
theorem dX4_explainingMoves_28 : decode cX4_explainingMoves 28 = .ok (.goto 4, 3) := by decide +kernel
theorem dX4_explainingMoves_31 : decode cX4_explainingMoves 31 = .ok (.iconst 0, 1) := by decide +kernel
theorem dX4_explainingMoves_32 : decode cX4_explainingMoves 32 = .ok (.ireturn, 1) := by decide +kernel
theorem dX4_explainingMoves_33 : decode cX4_explainingMoves 33 = .ok (.iconst 0, 1) := by decide +kernel
theorem dX4_explainingMoves_34 : decode cX4_explainingMoves 34 = .ok (.istore_n 3, 1) := by decide +kernel
theorem dX4_explainingMoves_35 : decode cX4_explainingMoves 35 = .ok (.iconst 0, 1) := by decide +kernel
theorem dX4_explainingMoves_36 : decode cX4_explainingMoves 36 = .ok (.istore 4, 2) := by decide +kernel
theorem dX4_explainingMoves_38 : decode cX4_explainingMoves 38 = .ok (.iconst 0, 1) := by decide +kernel
theorem dX4_explainingMoves_39 : decode cX4_explainingMoves 39 = .ok (.istore 5, 2) := by decide +kernel
theorem dX4_explainingMoves_41 : decode cX4_explainingMoves 41 = .ok (.iload 5, 2) := by decide +kernel
theorem dX4_explainingMoves_43 : decode cX4_explainingMoves 43 = .ok (.aload_n 0, 1) := by decide +kernel
theorem dX4_explainingMoves_44 : decode cX4_explainingMoves 44 = .ok (.getfield 31, 3) := by decide +kernel
theorem dX4_explainingMoves_47 : decode cX4_explainingMoves 47 = .ok (.getfield 60, 3) := by decide +kernel
theorem dX4_explainingMoves_50 : decode cX4_explainingMoves 50 = .ok (.if_icmp .ge 122, 3) := by decide +kernel
theorem dX4_explainingMoves_53 : decode cX4_explainingMoves 53 = .ok (.iconst 0, 1) := by decide +kernel
theorem dX4_explainingMoves_54 : decode cX4_explainingMoves 54 = .ok (.istore 6, 2) := by decide +kernel
theorem dX4_explainingMoves_56 : decode cX4_explainingMoves 56 = .ok (.iload 6, 2) := by decide +kernel
theorem dX4_explainingMoves_58 : decode cX4_explainingMoves 58 = .ok (.sipush 144, 3) := by decide +kernel
theorem dX4_explainingMoves_61 : decode cX4_explainingMoves 61 = .ok (.if_icmp .ge 89, 3) := by decide +kernel
theorem dX4_explainingMoves_64 : decode cX4_explainingMoves 64 = .ok (.aload_n 0, 1) := by decide +kernel
theorem dX4_explainingMoves_65 : decode cX4_explainingMoves 65 = .ok (.getfield 31, 3) := by decide +kernel
theorem dX4_explainingMoves_68 : decode cX4_explainingMoves 68 = .ok (.getfield 53, 3) := by decide +kernel
theorem dX4_explainingMoves_71 : decode cX4_explainingMoves 71 = .ok (.iload 5, 2) := by decide +kernel
theorem dX4_explainingMoves_73 : decode cX4_explainingMoves 73 = .ok (.iaload, 1) := by decide +kernel
theorem dX4_explainingMoves_74 : decode cX4_explainingMoves 74 = .ok (.iload 6, 2) := by decide +kernel
theorem dX4_explainingMoves_76 : decode cX4_explainingMoves 76 = .ok (.iload_n 2, 1) := by decide +kernel
theorem dX4_explainingMoves_77 : decode cX4_explainingMoves 77 = .ok (.invokestatic 136, 3) := by decide +kernel
theorem dX4_explainingMoves_80 : decode cX4_explainingMoves 80 = .ok (.ifCond .eq 64, 3) := by decide +kernel
theorem dX4_explainingMoves_83 : decode cX4_explainingMoves 83 = .ok (.aload_n 0, 1) := by decide +kernel
theorem dX4_explainingMoves_84 : decode cX4_explainingMoves 84 = .ok (.getfield 31, 3) := by decide +kernel
theorem dX4_explainingMoves_87 : decode cX4_explainingMoves 87 = .ok (.iload 6, 2) := by decide +kernel
theorem dX4_explainingMoves_89 : decode cX4_explainingMoves 89 = .ok (.invokevirtual 90, 3) := by decide +kernel
theorem dX4_explainingMoves_92 : decode cX4_explainingMoves 92 = .ok (.iconst (-1), 1) := by decide +kernel
theorem dX4_explainingMoves_93 : decode cX4_explainingMoves 93 = .ok (.if_icmp .ne 51, 3) := by decide +kernel
theorem dX4_explainingMoves_96 : decode cX4_explainingMoves 96 = .ok (.aload_n 0, 1) := by decide +kernel
theorem dX4_explainingMoves_97 : decode cX4_explainingMoves 97 = .ok (.iload 5, 2) := by decide +kernel
theorem dX4_explainingMoves_99 : decode cX4_explainingMoves 99 = .ok (.iload 6, 2) := by decide +kernel
theorem dX4_explainingMoves_101 : decode cX4_explainingMoves 101 = .ok (.invokevirtual 93, 3) := by decide +kernel
theorem dX4_explainingMoves_104 : decode cX4_explainingMoves 104 = .ok (.aload_n 0, 1) := by decide +kernel
theorem dX4_explainingMoves_105 : decode cX4_explainingMoves 105 = .ok (.getfield 23, 3) := by decide +kernel
theorem dX4_explainingMoves_108 : decode cX4_explainingMoves 108 = .ok (.aload_n 0, 1) := by decide +kernel
theorem dX4_explainingMoves_109 : decode cX4_explainingMoves 109 = .ok (.getfield 12, 3) := by decide +kernel
theorem dX4_explainingMoves_112 : decode cX4_explainingMoves 112 = .ok (.getfield 64, 3) := by decide +kernel
theorem dX4_explainingMoves_115 : decode cX4_explainingMoves 115 = .ok (.invokevirtual 133, 3) := by decide +kernel
theorem dX4_explainingMoves_118 : decode cX4_explainingMoves 118 = .ok (.iload_n 1, 1) := by decide +kernel
theorem dX4_explainingMoves_119 : decode cX4_explainingMoves 119 = .ok (.if_icmp .ne 25, 3) := by decide +kernel
theorem dX4_explainingMoves_122 : decode cX4_explainingMoves 122 = .ok (.iload 4, 2) := by decide +kernel
theorem dX4_explainingMoves_124 : decode cX4_explainingMoves 124 = .ok (.ifCond .ne 15, 3) := by decide +kernel
theorem dX4_explainingMoves_127 : decode cX4_explainingMoves 127 = .ok (.sipush 1000, 3) := by decide +kernel
theorem dX4_explainingMoves_130 : decode cX4_explainingMoves 130 = .ok (.iload 5, 2) := by decide +kernel
theorem dX4_explainingMoves_132 : decode cX4_explainingMoves 132 = .ok (.imul, 1) := by decide +kernel
theorem dX4_explainingMoves_133 : decode cX4_explainingMoves 133 = .ok (.iload 6, 2) := by decide +kernel
theorem dX4_explainingMoves_135 : decode cX4_explainingMoves 135 = .ok (.iadd, 1) := by decide +kernel
theorem dX4_explainingMoves_136 : decode cX4_explainingMoves 136 = .ok (.goto 4, 3) := by decide +kernel
theorem dX4_explainingMoves_139 : decode cX4_explainingMoves 139 = .ok (.iload_n 3, 1) := by decide +kernel
theorem dX4_explainingMoves_140 : decode cX4_explainingMoves 140 = .ok (.istore_n 3, 1) := by decide +kernel
theorem dX4_explainingMoves_141 : decode cX4_explainingMoves 141 = .ok (.iinc 4 1, 3) := by decide +kernel
theorem dX4_explainingMoves_144 : decode cX4_explainingMoves 144 = .ok (.iinc 6 1, 3) := by decide +kernel
theorem dX4_explainingMoves_147 : decode cX4_explainingMoves 147 = .ok (.goto (-91), 3) := by decide +kernel
theorem dX4_explainingMoves_150 : decode cX4_explainingMoves 150 = .ok (.aload_n 0, 1) := by decide +kernel
theorem dX4_explainingMoves_151 : decode cX4_explainingMoves 151 = .ok (.iload 5, 2) := by decide +kernel
theorem dX4_explainingMoves_153 : decode cX4_explainingMoves 153 = .ok (.aload_n 0, 1) := by decide +kernel
theorem dX4_explainingMoves_154 : decode cX4_explainingMoves 154 = .ok (.getfield 31, 3) := by decide +kernel
theorem dX4_explainingMoves_157 : decode cX4_explainingMoves 157 = .ok (.getfield 53, 3) := by decide +kernel
theorem dX4_explainingMoves_160 : decode cX4_explainingMoves 160 = .ok (.iload 5, 2) := by decide +kernel
theorem dX4_explainingMoves_162 : decode cX4_explainingMoves 162 = .ok (.iaload, 1) := by decide +kernel
theorem dX4_explainingMoves_163 : decode cX4_explainingMoves 163 = .ok (.invokevirtual 93, 3) := by decide +kernel
theorem dX4_explainingMoves_166 : decode cX4_explainingMoves 166 = .ok (.iinc 5 1, 3) := by decide +kernel
theorem dX4_explainingMoves_169 : decode cX4_explainingMoves 169 = .ok (.goto (-128), 3) := by decide +kernel
theorem dX4_explainingMoves_172 : decode cX4_explainingMoves 172 = .ok (.ldc 97, 2) := by decide +kernel
theorem dX4_explainingMoves_174 : decode cX4_explainingMoves 174 = .ok (.iload 4, 2) := by decide +kernel
theorem dX4_explainingMoves_176 : decode cX4_explainingMoves 176 = .ok (.imul, 1) := by decide +kernel
theorem dX4_explainingMoves_177 : decode cX4_explainingMoves 177 = .ok (.iload_n 3, 1) := by decide +kernel
theorem dX4_explainingMoves_178 : decode cX4_explainingMoves 178 = .ok (.iadd, 1) := by decide +kernel
theorem dX4_explainingMoves_179 : decode cX4_explainingMoves 179 = .ok (.ireturn, 1) := by decide +kernel
theorem dX4_isWithin_0 : decode cX4_isWithin 0 = .ok (.iload_n 0, 1) := by decide +kernel
theorem dX4_isWithin_1 : decode cX4_isWithin 1 = .ok (.bipush 12, 2) := by decide +kernel
theorem dX4_isWithin_3 : decode cX4_isWithin 3 = .ok (.irem, 1) := by decide +kernel
theorem dX4_isWithin_4 : decode cX4_isWithin 4 = .ok (.iload_n 1, 1) := by decide +kernel
theorem dX4_isWithin_5 : decode cX4_isWithin 5 = .ok (.bipush 12, 2) := by decide +kernel
theorem dX4_isWithin_7 : decode cX4_isWithin 7 = .ok (.irem, 1) := by decide +kernel
theorem dX4_isWithin_8 : decode cX4_isWithin 8 = .ok (.isub, 1) := by decide +kernel
theorem dX4_isWithin_9 : decode cX4_isWithin 9 = .ok (.invokestatic 140, 3) := by decide +kernel
theorem dX4_isWithin_12 : decode cX4_isWithin 12 = .ok (.iload_n 2, 1) := by decide +kernel
theorem dX4_isWithin_13 : decode cX4_isWithin 13 = .ok (.if_icmp .gt 23, 3) := by decide +kernel
theorem dX4_isWithin_16 : decode cX4_isWithin 16 = .ok (.iload_n 0, 1) := by decide +kernel
theorem dX4_isWithin_17 : decode cX4_isWithin 17 = .ok (.bipush 12, 2) := by decide +kernel
theorem dX4_isWithin_19 : decode cX4_isWithin 19 = .ok (.idiv, 1) := by decide +kernel
theorem dX4_isWithin_20 : decode cX4_isWithin 20 = .ok (.iload_n 1, 1) := by decide +kernel
theorem dX4_isWithin_21 : decode cX4_isWithin 21 = .ok (.bipush 12, 2) := by decide +kernel
theorem dX4_isWithin_23 : decode cX4_isWithin 23 = .ok (.idiv, 1) := by decide +kernel
theorem dX4_isWithin_24 : decode cX4_isWithin 24 = .ok (.isub, 1) := by decide +kernel
theorem dX4_isWithin_25 : decode cX4_isWithin 25 = .ok (.invokestatic 140, 3) := by decide +kernel
theorem dX4_isWithin_28 : decode cX4_isWithin 28 = .ok (.iload_n 2, 1) := by decide +kernel
theorem dX4_isWithin_29 : decode cX4_isWithin 29 = .ok (.if_icmp .gt 7, 3) := by decide +kernel
theorem dX4_isWithin_32 : decode cX4_isWithin 32 = .ok (.iconst 1, 1) := by decide +kernel
theorem dX4_isWithin_33 : decode cX4_isWithin 33 = .ok (.goto 4, 3) := by decide +kernel
theorem dX4_isWithin_36 : decode cX4_isWithin 36 = .ok (.iconst 0, 1) := by decide +kernel
theorem dX4_isWithin_37 : decode cX4_isWithin 37 = .ok (.ireturn, 1) := by decide +kernel
set_option maxRecDepth 20000 in
theorem ggX4_pairsOfCamps_X0_become : GoodIn wsX4_pairsOfCamps wsX0_become := goodIn_r _ [10, 11, 12, 13, 14, 15, 16, 17, 18, 19, 20, 21, 22, 23, 24, 110, 111, 112, 113, 114, 115, 116, 117, 118, 119] (by decide +kernel) (by decide +kernel)
set_option maxRecDepth 20000 in
theorem gX4_pairsOfCamps_X0_become : GoodIn wsX4_pairsOfCamps (wsV RX4 34 RX0 yX0_become wsX0_become) := goodIn_app (goodIn_of _ (by decide +kernel)) ggX4_pairsOfCamps_X0_become
set_option maxRecDepth 20000 in
theorem ggX4_pairsOfCamps_X0_stray : GoodIn wsX4_pairsOfCamps wsX0_stray := goodIn_r _ [28, 16, 29, 30, 31, 9, 32, 24, 33, 34, 35, 36, 37, 18, 38, 39, 40, 41, 42, 43, 44, 45, 110, 111, 112, 113, 114, 115, 116, 117, 118, 119] (by decide +kernel) (by decide +kernel)
set_option maxRecDepth 20000 in
theorem gX4_pairsOfCamps_X0_stray : GoodIn wsX4_pairsOfCamps (wsV RX4 143 RX0 yX0_stray wsX0_stray) := goodIn_app (goodIn_of _ (by decide +kernel)) ggX4_pairsOfCamps_X0_stray
set_option maxRecDepth 20000 in
theorem ggX4_pairsOfCamps_X1_listen : GoodIn wsX4_pairsOfCamps wsX1_listen := goodIn_r _ [50, 51, 52, 53, 54, 55, 49, 56, 57, 58, 59, 60, 61, 9, 62, 22, 20, 63, 64, 65, 66, 21, 67, 68, 69, 70, 71, 72, 73, 74, 75, 76, 77, 78, 79, 80, 81, 82, 83, 84, 85, 86, 120, 121, 122, 123, 110, 111, 112, 113, 114, 115, 116, 117, 118, 119] (by decide +kernel) (by decide +kernel)
set_option maxRecDepth 20000 in
theorem gX4_pairsOfCamps_X1_listen : GoodIn wsX4_pairsOfCamps (wsV RX4 37 RX1 yX1_listen wsX1_listen) := goodIn_app (goodIn_of _ (by decide +kernel)) ggX4_pairsOfCamps_X1_listen
set_option maxRecDepth 20000 in
theorem ggX4_pairsOfCamps_X1_countPairs : GoodIn wsX4_pairsOfCamps wsX1_countPairs := goodIn_r _ [90, 91, 92, 93, 49, 94, 51, 52, 95, 96, 97, 98, 72, 99, 100, 101, 102, 103, 104, 105, 120, 121, 122, 123, 110, 111, 112, 113, 114, 115, 116, 117, 118, 119] (by decide +kernel) (by decide +kernel)
set_option maxRecDepth 20000 in
theorem gX4_pairsOfCamps_X1_countPairs : GoodIn wsX4_pairsOfCamps (wsV RX4 146 RX1 yX1_countPairs wsX1_countPairs) := goodIn_app (goodIn_of _ (by decide +kernel)) ggX4_pairsOfCamps_X1_countPairs
theorem dX4_pairsOfCamps_0 : decode cX4_pairsOfCamps 0 = .ok (.aload_n 0, 1) := by decide +kernel
theorem dX4_pairsOfCamps_1 : decode cX4_pairsOfCamps 1 = .ok (.getfield 12, 3) := by decide +kernel
theorem dX4_pairsOfCamps_4 : decode cX4_pairsOfCamps 4 = .ok (.aload_n 0, 1) := by decide +kernel
theorem dX4_pairsOfCamps_5 : decode cX4_pairsOfCamps 5 = .ok (.getfield 31, 3) := by decide +kernel
theorem dX4_pairsOfCamps_8 : decode cX4_pairsOfCamps 8 = .ok (.invokevirtual 34, 3) := by decide +kernel
theorem dX4_pairsOfCamps_11 : decode cX4_pairsOfCamps 11 = .ok (.iconst 0, 1) := by decide +kernel
theorem dX4_pairsOfCamps_12 : decode cX4_pairsOfCamps 12 = .ok (.istore_n 2, 1) := by decide +kernel
theorem dX4_pairsOfCamps_13 : decode cX4_pairsOfCamps 13 = .ok (.iconst 0, 1) := by decide +kernel
theorem dX4_pairsOfCamps_14 : decode cX4_pairsOfCamps 14 = .ok (.istore_n 3, 1) := by decide +kernel
theorem dX4_pairsOfCamps_15 : decode cX4_pairsOfCamps 15 = .ok (.iload_n 3, 1) := by decide +kernel
theorem dX4_pairsOfCamps_16 : decode cX4_pairsOfCamps 16 = .ok (.iload_n 1, 1) := by decide +kernel
theorem dX4_pairsOfCamps_17 : decode cX4_pairsOfCamps 17 = .ok (.if_icmp .ge 56, 3) := by decide +kernel
theorem dX4_pairsOfCamps_20 : decode cX4_pairsOfCamps 20 = .ok (.iconst 0, 1) := by decide +kernel
theorem dX4_pairsOfCamps_21 : decode cX4_pairsOfCamps 21 = .ok (.istore 4, 2) := by decide +kernel
theorem dX4_pairsOfCamps_23 : decode cX4_pairsOfCamps 23 = .ok (.iload 4, 2) := by decide +kernel
theorem dX4_pairsOfCamps_25 : decode cX4_pairsOfCamps 25 = .ok (.aload_n 0, 1) := by decide +kernel
theorem dX4_pairsOfCamps_26 : decode cX4_pairsOfCamps 26 = .ok (.getfield 12, 3) := by decide +kernel
theorem dX4_pairsOfCamps_29 : decode cX4_pairsOfCamps 29 = .ok (.getfield 60, 3) := by decide +kernel
theorem dX4_pairsOfCamps_32 : decode cX4_pairsOfCamps 32 = .ok (.if_icmp .ge 18, 3) := by decide +kernel
theorem dX4_pairsOfCamps_35 : decode cX4_pairsOfCamps 35 = .ok (.aload_n 0, 1) := by decide +kernel
theorem dX4_pairsOfCamps_36 : decode cX4_pairsOfCamps 36 = .ok (.getfield 12, 3) := by decide +kernel
theorem dX4_pairsOfCamps_39 : decode cX4_pairsOfCamps 39 = .ok (.iload 4, 2) := by decide +kernel
theorem dX4_pairsOfCamps_41 : decode cX4_pairsOfCamps 41 = .ok (.invokevirtual 143, 3) := by decide +kernel
theorem dX4_pairsOfCamps_44 : decode cX4_pairsOfCamps 44 = .ok (.iinc 4 1, 3) := by decide +kernel
theorem dX4_pairsOfCamps_47 : decode cX4_pairsOfCamps 47 = .ok (.goto (-24), 3) := by decide +kernel
theorem dX4_pairsOfCamps_50 : decode cX4_pairsOfCamps 50 = .ok (.aload_n 0, 1) := by decide +kernel
theorem dX4_pairsOfCamps_51 : decode cX4_pairsOfCamps 51 = .ok (.getfield 23, 3) := by decide +kernel
theorem dX4_pairsOfCamps_54 : decode cX4_pairsOfCamps 54 = .ok (.invokevirtual 37, 3) := by decide +kernel
theorem dX4_pairsOfCamps_57 : decode cX4_pairsOfCamps 57 = .ok (.iload_n 2, 1) := by decide +kernel
theorem dX4_pairsOfCamps_58 : decode cX4_pairsOfCamps 58 = .ok (.aload_n 0, 1) := by decide +kernel
theorem dX4_pairsOfCamps_59 : decode cX4_pairsOfCamps 59 = .ok (.getfield 23, 3) := by decide +kernel
theorem dX4_pairsOfCamps_62 : decode cX4_pairsOfCamps 62 = .ok (.invokevirtual 146, 3) := by decide +kernel
theorem dX4_pairsOfCamps_65 : decode cX4_pairsOfCamps 65 = .ok (.iadd, 1) := by decide +kernel
theorem dX4_pairsOfCamps_66 : decode cX4_pairsOfCamps 66 = .ok (.istore_n 2, 1) := by decide +kernel
theorem dX4_pairsOfCamps_67 : decode cX4_pairsOfCamps 67 = .ok (.iinc 3 1, 3) := by decide +kernel
theorem dX4_pairsOfCamps_70 : decode cX4_pairsOfCamps 70 = .ok (.goto (-55), 3) := by decide +kernel
theorem dX4_pairsOfCamps_73 : decode cX4_pairsOfCamps 73 = .ok (.aload_n 0, 1) := by decide +kernel
theorem dX4_pairsOfCamps_74 : decode cX4_pairsOfCamps 74 = .ok (.getfield 31, 3) := by decide +kernel
theorem dX4_pairsOfCamps_77 : decode cX4_pairsOfCamps 77 = .ok (.aload_n 0, 1) := by decide +kernel
theorem dX4_pairsOfCamps_78 : decode cX4_pairsOfCamps 78 = .ok (.getfield 12, 3) := by decide +kernel
theorem dX4_pairsOfCamps_81 : decode cX4_pairsOfCamps 81 = .ok (.getfield 149, 3) := by decide +kernel
theorem dX4_pairsOfCamps_84 : decode cX4_pairsOfCamps 84 = .ok (.putfield 149, 3) := by decide +kernel
theorem dX4_pairsOfCamps_87 : decode cX4_pairsOfCamps 87 = .ok (.iload_n 2, 1) := by decide +kernel
theorem dX4_pairsOfCamps_88 : decode cX4_pairsOfCamps 88 = .ok (.ireturn, 1) := by decide +kernel
set_option maxRecDepth 20000 in
theorem ggX4_read_X0_become : GoodIn wsX4_read wsX0_become := goodIn_r _ [7, 8, 9, 10, 11, 12, 13, 14, 15, 16, 17, 18, 19, 20, 21, 139, 140, 141, 142, 143, 144, 145, 146, 147, 148] (by decide +kernel) (by decide +kernel)
set_option maxRecDepth 20000 in
theorem gX4_read_X0_become : GoodIn wsX4_read (wsV RX4 34 RX0 yX0_become wsX0_become) := goodIn_app (goodIn_of _ (by decide +kernel)) ggX4_read_X0_become
set_option maxRecDepth 20000 in
theorem ggX4_read_X3_readText : GoodIn wsX4_read wsX3_readText := goodIn_r _ [26, 27, 28, 29, 30, 31, 32, 33, 25, 34, 35, 36, 37, 38, 39, 40, 41, 42, 43, 44, 45, 46, 47, 48, 49, 50, 51, 52, 53, 54, 55, 56, 57, 58, 59, 60, 61, 62, 63, 64, 65, 66, 67, 68, 69, 70, 71, 72, 73, 74, 75, 76, 77, 78, 79, 80, 81, 82, 83, 84, 85, 86, 87, 88, 89, 90, 91, 92, 93, 94, 95, 96, 97, 98, 99, 100, 101, 102, 103, 104, 105, 106, 107, 108, 109, 110, 111, 112, 113, 114, 115, 116, 117, 118, 119, 6, 120, 15, 13, 121, 122, 123, 124, 8, 125, 126, 127, 128, 16, 129, 130, 131, 132, 133, 134, 149, 150, 151, 152, 153, 154, 139, 140, 141, 142, 143, 144, 145, 146, 147, 148] (by decide +kernel) (by decide +kernel)
set_option maxRecDepth 20000 in
theorem gX4_read_X3_readText : GoodIn wsX4_read (wsV RX4 152 RX3 yX3_readText wsX3_readText) := goodIn_app (goodIn_of _ (by decide +kernel)) ggX4_read_X3_readText
theorem dX4_read_0 : decode cX4_read 0 = .ok (.aload_n 0, 1) := by decide +kernel
theorem dX4_read_1 : decode cX4_read 1 = .ok (.getfield 12, 3) := by decide +kernel
theorem dX4_read_4 : decode cX4_read 4 = .ok (.aload_n 0, 1) := by decide +kernel
theorem dX4_read_5 : decode cX4_read 5 = .ok (.getfield 31, 3) := by decide +kernel
theorem dX4_read_8 : decode cX4_read 8 = .ok (.invokevirtual 34, 3) := by decide +kernel
theorem dX4_read_11 : decode cX4_read 11 = .ok (.aload_n 1, 1) := by decide +kernel
theorem dX4_read_12 : decode cX4_read 12 = .ok (.aload_n 0, 1) := by decide +kernel
theorem dX4_read_13 : decode cX4_read 13 = .ok (.getfield 12, 3) := by decide +kernel
theorem dX4_read_16 : decode cX4_read 16 = .ok (.invokevirtual 152, 3) := by decide +kernel
theorem dX4_read_19 : decode cX4_read 19 = .ok (.istore_n 2, 1) := by decide +kernel
theorem dX4_read_20 : decode cX4_read 20 = .ok (.iload_n 2, 1) := by decide +kernel
theorem dX4_read_21 : decode cX4_read 21 = .ok (.ifCond .lt 14, 3) := by decide +kernel
theorem dX4_read_24 : decode cX4_read 24 = .ok (.aload_n 0, 1) := by decide +kernel
theorem dX4_read_25 : decode cX4_read 25 = .ok (.getfield 31, 3) := by decide +kernel
theorem dX4_read_28 : decode cX4_read 28 = .ok (.aload_n 0, 1) := by decide +kernel
theorem dX4_read_29 : decode cX4_read 29 = .ok (.getfield 12, 3) := by decide +kernel
theorem dX4_read_32 : decode cX4_read 32 = .ok (.invokevirtual 34, 3) := by decide +kernel
theorem dX4_read_35 : decode cX4_read 35 = .ok (.iload_n 2, 1) := by decide +kernel
theorem dX4_read_36 : decode cX4_read 36 = .ok (.ireturn, 1) := by decide +kernel
theorem dX5_init_0 : decode cX5_init 0 = .ok (.aload_n 0, 1) := by decide +kernel
theorem dX5_init_1 : decode cX5_init 1 = .ok (.invokespecial 3, 3) := by decide +kernel
theorem dX5_init_4 : decode cX5_init 4 = .ok (.aload_n 0, 1) := by decide +kernel
theorem dX5_init_5 : decode cX5_init 5 = .ok (.sipush 1024, 3) := by decide +kernel
theorem dX5_init_8 : decode cX5_init 8 = .ok (.newarray .int, 2) := by decide +kernel
theorem dX5_init_10 : decode cX5_init 10 = .ok (.putfield 9, 3) := by decide +kernel
theorem dX5_init_13 : decode cX5_init 13 = .ok (.aload_n 0, 1) := by decide +kernel
theorem dX5_init_14 : decode cX5_init 14 = .ok (.aload_n 1, 1) := by decide +kernel
theorem dX5_init_15 : decode cX5_init 15 = .ok (.putfield 15, 3) := by decide +kernel
theorem dX5_init_18 : decode cX5_init 18 = .ok (.return_, 1) := by decide +kernel
set_option maxRecDepth 20000 in
theorem ggX5_go_X1_listen : GoodIn wsX5_go wsX1_listen := goodIn_r _ [12, 13, 14, 15, 16, 17, 11, 18, 19, 20, 21, 22, 23, 24, 25, 26, 27, 28, 29, 30, 31, 32, 33, 34, 35, 36, 37, 38, 39, 40, 41, 42, 43, 44, 45, 46, 47, 48, 49, 50, 51, 52, 75, 76, 77, 78, 79, 80, 81, 82, 83, 84, 85, 86, 87, 88] (by decide +kernel) (by decide +kernel)
set_option maxRecDepth 20000 in
theorem gX5_go_X1_listen : GoodIn wsX5_go (wsV RX5 19 RX1 yX1_listen wsX1_listen) := goodIn_app (goodIn_of _ (by decide +kernel)) ggX5_go_X1_listen
set_option maxRecDepth 20000 in
theorem ggX5_go_J7_fill_53178 : GoodIn wsX5_go wsJ7_fill_53178 := goodIn_r _ [56] (by decide +kernel) (by decide +kernel)
set_option maxRecDepth 20000 in
theorem gX5_go_J7_fill_53178 : GoodIn wsX5_go (va_wsS RX5 24 yJ7_fill_53178 wsJ7_fill_53178) := goodIn_app (goodIn_of _ (by decide +kernel)) ggX5_go_J7_fill_53178
set_option maxRecDepth 20000 in
theorem ggX5_go_X0_all : GoodIn wsX5_go wsX0_all := goodIn_r _ [60, 61, 79, 80, 81, 82, 83, 84, 85, 86, 87, 88] (by decide +kernel) (by decide +kernel)
set_option maxRecDepth 20000 in
theorem gX5_go_X0_all : GoodIn wsX5_go (wsV RX5 49 RX0 yX0_all wsX0_all) := goodIn_app (goodIn_of _ (by decide +kernel)) ggX5_go_X0_all
set_option maxRecDepth 20000 in
theorem ggX5_go_X1_nextSaid : GoodIn wsX5_go wsX1_nextSaid := goodIn_r _ [65, 13, 14, 66, 67, 68, 11, 69, 48, 38, 37, 75, 76, 77, 78, 79, 80, 81, 82, 83, 84, 85, 86, 87, 88] (by decide +kernel) (by decide +kernel)
set_option maxRecDepth 20000 in
theorem gX5_go_X1_nextSaid : GoodIn wsX5_go (wsV RX5 53 RX1 yX1_nextSaid wsX1_nextSaid) := goodIn_app (goodIn_of _ (by decide +kernel)) ggX5_go_X1_nextSaid
theorem dX5_go_0 : decode cX5_go 0 = .ok (.aload_n 0, 1) := by decide +kernel
theorem dX5_go_1 : decode cX5_go 1 = .ok (.getfield 15, 3) := by decide +kernel
theorem dX5_go_4 : decode cX5_go 4 = .ok (.invokevirtual 19, 3) := by decide +kernel
theorem dX5_go_7 : decode cX5_go 7 = .ok (.aload_n 0, 1) := by decide +kernel
theorem dX5_go_8 : decode cX5_go 8 = .ok (.getfield 9, 3) := by decide +kernel
theorem dX5_go_11 : decode cX5_go 11 = .ok (.iconst (-1), 1) := by decide +kernel
theorem dX5_go_12 : decode cX5_go 12 = .ok (.invokestatic 24, 3) := by decide +kernel
theorem dX5_go_15 : decode cX5_go 15 = .ok (.aload_n 0, 1) := by decide +kernel
theorem dX5_go_16 : decode cX5_go 16 = .ok (.iconst 0, 1) := by decide +kernel
theorem dX5_go_17 : decode cX5_go 17 = .ok (.putfield 30, 3) := by decide +kernel
theorem dX5_go_20 : decode cX5_go 20 = .ok (.aload_n 0, 1) := by decide +kernel
theorem dX5_go_21 : decode cX5_go 21 = .ok (.iconst 1, 1) := by decide +kernel
theorem dX5_go_22 : decode cX5_go 22 = .ok (.putfield 34, 3) := by decide +kernel
theorem dX5_go_25 : decode cX5_go 25 = .ok (.aload_n 0, 1) := by decide +kernel
theorem dX5_go_26 : decode cX5_go 26 = .ok (.iconst (-1), 1) := by decide +kernel
theorem dX5_go_27 : decode cX5_go 27 = .ok (.putfield 37, 3) := by decide +kernel
theorem dX5_go_30 : decode cX5_go 30 = .ok (.aload_n 0, 1) := by decide +kernel
theorem dX5_go_31 : decode cX5_go 31 = .ok (.getfield 15, 3) := by decide +kernel
theorem dX5_go_34 : decode cX5_go 34 = .ok (.getfield 40, 3) := by decide +kernel
theorem dX5_go_37 : decode cX5_go 37 = .ok (.getfield 44, 3) := by decide +kernel
theorem dX5_go_40 : decode cX5_go 40 = .ok (.istore_n 1, 1) := by decide +kernel
theorem dX5_go_41 : decode cX5_go 41 = .ok (.iconst 0, 1) := by decide +kernel
theorem dX5_go_42 : decode cX5_go 42 = .ok (.istore_n 2, 1) := by decide +kernel
theorem dX5_go_43 : decode cX5_go 43 = .ok (.iload_n 2, 1) := by decide +kernel
theorem dX5_go_44 : decode cX5_go 44 = .ok (.sipush 1024, 3) := by decide +kernel
theorem dX5_go_47 : decode cX5_go 47 = .ok (.if_icmp .gt 89, 3) := by decide +kernel
theorem dX5_go_50 : decode cX5_go 50 = .ok (.iload_n 1, 1) := by decide +kernel
theorem dX5_go_51 : decode cX5_go 51 = .ok (.ifCond .lt 85, 3) := by decide +kernel
theorem dX5_go_54 : decode cX5_go 54 = .ok (.iload_n 1, 1) := by decide +kernel
theorem dX5_go_55 : decode cX5_go 55 = .ok (.sipush 1024, 3) := by decide +kernel
theorem dX5_go_58 : decode cX5_go 58 = .ok (.if_icmp .ge 78, 3) := by decide +kernel
theorem dX5_go_61 : decode cX5_go 61 = .ok (.aload_n 0, 1) := by decide +kernel
theorem dX5_go_62 : decode cX5_go 62 = .ok (.getfield 9, 3) := by decide +kernel
theorem dX5_go_65 : decode cX5_go 65 = .ok (.iload_n 1, 1) := by decide +kernel
theorem dX5_go_66 : decode cX5_go 66 = .ok (.iaload, 1) := by decide +kernel
theorem dX5_go_67 : decode cX5_go 67 = .ok (.ifCond .lt 24, 3) := by decide +kernel
theorem dX5_go_70 : decode cX5_go 70 = .ok (.aload_n 0, 1) := by decide +kernel
theorem dX5_go_71 : decode cX5_go 71 = .ok (.aload_n 0, 1) := by decide +kernel
theorem dX5_go_72 : decode cX5_go 72 = .ok (.getfield 9, 3) := by decide +kernel
theorem dX5_go_75 : decode cX5_go 75 = .ok (.iload_n 1, 1) := by decide +kernel
theorem dX5_go_76 : decode cX5_go 76 = .ok (.iaload, 1) := by decide +kernel
theorem dX5_go_77 : decode cX5_go 77 = .ok (.putfield 30, 3) := by decide +kernel
theorem dX5_go_80 : decode cX5_go 80 = .ok (.aload_n 0, 1) := by decide +kernel
theorem dX5_go_81 : decode cX5_go 81 = .ok (.iload_n 2, 1) := by decide +kernel
theorem dX5_go_82 : decode cX5_go 82 = .ok (.aload_n 0, 1) := by decide +kernel
theorem dX5_go_83 : decode cX5_go 83 = .ok (.getfield 30, 3) := by decide +kernel
theorem dX5_go_86 : decode cX5_go 86 = .ok (.isub, 1) := by decide +kernel
theorem dX5_go_87 : decode cX5_go 87 = .ok (.putfield 34, 3) := by decide +kernel
theorem dX5_go_90 : decode cX5_go 90 = .ok (.return_, 1) := by decide +kernel
theorem dX5_go_91 : decode cX5_go 91 = .ok (.aload_n 0, 1) := by decide +kernel
theorem dX5_go_92 : decode cX5_go 92 = .ok (.getfield 9, 3) := by decide +kernel
theorem dX5_go_95 : decode cX5_go 95 = .ok (.iload_n 1, 1) := by decide +kernel
theorem dX5_go_96 : decode cX5_go 96 = .ok (.iload_n 2, 1) := by decide +kernel
theorem dX5_go_97 : decode cX5_go 97 = .ok (.iastore, 1) := by decide +kernel
theorem dX5_go_98 : decode cX5_go 98 = .ok (.iload_n 1, 1) := by decide +kernel
theorem dX5_go_99 : decode cX5_go 99 = .ok (.ifCond .eq 22, 3) := by decide +kernel
theorem dX5_go_102 : decode cX5_go 102 = .ok (.iload_n 1, 1) := by decide +kernel
theorem dX5_go_103 : decode cX5_go 103 = .ok (.aload_n 0, 1) := by decide +kernel
theorem dX5_go_104 : decode cX5_go 104 = .ok (.getfield 15, 3) := by decide +kernel
theorem dX5_go_107 : decode cX5_go 107 = .ok (.getfield 40, 3) := by decide +kernel
theorem dX5_go_110 : decode cX5_go 110 = .ok (.invokevirtual 49, 3) := by decide +kernel
theorem dX5_go_113 : decode cX5_go 113 = .ok (.if_icmp .eq 8, 3) := by decide +kernel
theorem dX5_go_116 : decode cX5_go 116 = .ok (.aload_n 0, 1) := by decide +kernel
theorem dX5_go_117 : decode cX5_go 117 = .ok (.iload_n 2, 1) := by decide +kernel
theorem dX5_go_118 : decode cX5_go 118 = .ok (.putfield 37, 3) := by decide +kernel
theorem dX5_go_121 : decode cX5_go 121 = .ok (.aload_n 0, 1) := by decide +kernel
theorem dX5_go_122 : decode cX5_go 122 = .ok (.getfield 15, 3) := by decide +kernel
theorem dX5_go_125 : decode cX5_go 125 = .ok (.iload_n 1, 1) := by decide +kernel
theorem dX5_go_126 : decode cX5_go 126 = .ok (.invokevirtual 53, 3) := by decide +kernel
theorem dX5_go_129 : decode cX5_go 129 = .ok (.istore_n 1, 1) := by decide +kernel
theorem dX5_go_130 : decode cX5_go 130 = .ok (.iinc 2 1, 3) := by decide +kernel
theorem dX5_go_133 : decode cX5_go 133 = .ok (.goto (-90), 3) := by decide +kernel
theorem dX5_go_136 : decode cX5_go 136 = .ok (.return_, 1) := by decide +kernel
