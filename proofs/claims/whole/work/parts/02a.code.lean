theorem dX0_init_0 : decode cX0_init 0 = .ok (.aload_n 0, 1) := by decide +kernel
theorem dX0_init_1 : decode cX0_init 1 = .ok (.invokespecial 3, 3) := by decide +kernel
theorem dX0_init_4 : decode cX0_init 4 = .ok (.aload_n 0, 1) := by decide +kernel
theorem dX0_init_5 : decode cX0_init 5 = .ok (.bipush 12, 2) := by decide +kernel
theorem dX0_init_7 : decode cX0_init 7 = .ok (.putfield 9, 3) := by decide +kernel
theorem dX0_init_10 : decode cX0_init 10 = .ok (.aload_n 0, 1) := by decide +kernel
theorem dX0_init_11 : decode cX0_init 11 = .ok (.bipush 24, 2) := by decide +kernel
theorem dX0_init_13 : decode cX0_init 13 = .ok (.newarray .int, 2) := by decide +kernel
theorem dX0_init_15 : decode cX0_init 15 = .ok (.putfield 15, 3) := by decide +kernel
theorem dX0_init_18 : decode cX0_init 18 = .ok (.aload_n 0, 1) := by decide +kernel
theorem dX0_init_19 : decode cX0_init 19 = .ok (.bipush 24, 2) := by decide +kernel
theorem dX0_init_21 : decode cX0_init 21 = .ok (.newarray .int, 2) := by decide +kernel
theorem dX0_init_23 : decode cX0_init 23 = .ok (.putfield 19, 3) := by decide +kernel
theorem dX0_init_26 : decode cX0_init 26 = .ok (.aload_n 0, 1) := by decide +kernel
theorem dX0_init_27 : decode cX0_init 27 = .ok (.bipush 24, 2) := by decide +kernel
theorem dX0_init_29 : decode cX0_init 29 = .ok (.newarray .int, 2) := by decide +kernel
theorem dX0_init_31 : decode cX0_init 31 = .ok (.putfield 22, 3) := by decide +kernel
theorem dX0_init_34 : decode cX0_init 34 = .ok (.aload_n 0, 1) := by decide +kernel
theorem dX0_init_35 : decode cX0_init 35 = .ok (.bipush 24, 2) := by decide +kernel
theorem dX0_init_37 : decode cX0_init 37 = .ok (.newarray .int, 2) := by decide +kernel
theorem dX0_init_39 : decode cX0_init 39 = .ok (.putfield 25, 3) := by decide +kernel
theorem dX0_init_42 : decode cX0_init 42 = .ok (.iconst 0, 1) := by decide +kernel
theorem dX0_init_43 : decode cX0_init 43 = .ok (.istore_n 1, 1) := by decide +kernel
theorem dX0_init_44 : decode cX0_init 44 = .ok (.iload_n 1, 1) := by decide +kernel
theorem dX0_init_45 : decode cX0_init 45 = .ok (.bipush 24, 2) := by decide +kernel
theorem dX0_init_47 : decode cX0_init 47 = .ok (.if_icmp .ge 25, 3) := by decide +kernel
theorem dX0_init_50 : decode cX0_init 50 = .ok (.aload_n 0, 1) := by decide +kernel
theorem dX0_init_51 : decode cX0_init 51 = .ok (.getfield 15, 3) := by decide +kernel
theorem dX0_init_54 : decode cX0_init 54 = .ok (.iload_n 1, 1) := by decide +kernel
theorem dX0_init_55 : decode cX0_init 55 = .ok (.iload_n 1, 1) := by decide +kernel
theorem dX0_init_56 : decode cX0_init 56 = .ok (.iastore, 1) := by decide +kernel
theorem dX0_init_57 : decode cX0_init 57 = .ok (.aload_n 0, 1) := by decide +kernel
theorem dX0_init_58 : decode cX0_init 58 = .ok (.getfield 19, 3) := by decide +kernel
theorem dX0_init_61 : decode cX0_init 61 = .ok (.iload_n 1, 1) := by decide +kernel
theorem dX0_init_62 : decode cX0_init 62 = .ok (.sipush 5000, 3) := by decide +kernel
theorem dX0_init_65 : decode cX0_init 65 = .ok (.iastore, 1) := by decide +kernel
theorem dX0_init_66 : decode cX0_init 66 = .ok (.iinc 1 1, 3) := by decide +kernel
theorem dX0_init_69 : decode cX0_init 69 = .ok (.goto (-25), 3) := by decide +kernel
theorem dX0_init_72 : decode cX0_init 72 = .ok (.iconst 0, 1) := by decide +kernel
theorem dX0_init_73 : decode cX0_init 73 = .ok (.istore_n 1, 1) := by decide +kernel
theorem dX0_init_74 : decode cX0_init 74 = .ok (.iload_n 1, 1) := by decide +kernel
theorem dX0_init_75 : decode cX0_init 75 = .ok (.bipush 24, 2) := by decide +kernel
theorem dX0_init_77 : decode cX0_init 77 = .ok (.if_icmp .ge 18, 3) := by decide +kernel
theorem dX0_init_80 : decode cX0_init 80 = .ok (.aload_n 0, 1) := by decide +kernel
theorem dX0_init_81 : decode cX0_init 81 = .ok (.getfield 25, 3) := by decide +kernel
theorem dX0_init_84 : decode cX0_init 84 = .ok (.iload_n 1, 1) := by decide +kernel
theorem dX0_init_85 : decode cX0_init 85 = .ok (.sipush 4000, 3) := by decide +kernel
theorem dX0_init_88 : decode cX0_init 88 = .ok (.iastore, 1) := by decide +kernel
theorem dX0_init_89 : decode cX0_init 89 = .ok (.iinc 1 1, 3) := by decide +kernel
theorem dX0_init_92 : decode cX0_init 92 = .ok (.goto (-18), 3) := by decide +kernel
theorem dX0_init_95 : decode cX0_init 95 = .ok (.return_, 1) := by decide +kernel
theorem dX0_has_0 : decode cX0_has 0 = .ok (.iconst 0, 1) := by decide +kernel
theorem dX0_has_1 : decode cX0_has 1 = .ok (.iload_n 1, 1) := by decide +kernel
theorem dX0_has_2 : decode cX0_has 2 = .ok (.if_icmp .gt 15, 3) := by decide +kernel
theorem dX0_has_5 : decode cX0_has 5 = .ok (.iload_n 1, 1) := by decide +kernel
theorem dX0_has_6 : decode cX0_has 6 = .ok (.aload_n 0, 1) := by decide +kernel
theorem dX0_has_7 : decode cX0_has 7 = .ok (.getfield 9, 3) := by decide +kernel
theorem dX0_has_10 : decode cX0_has 10 = .ok (.if_icmp .ge 7, 3) := by decide +kernel
theorem dX0_has_13 : decode cX0_has 13 = .ok (.iconst 1, 1) := by decide +kernel
theorem dX0_has_14 : decode cX0_has 14 = .ok (.goto 4, 3) := by decide +kernel
theorem dX0_has_17 : decode cX0_has 17 = .ok (.iconst 0, 1) := by decide +kernel
theorem dX0_has_18 : decode cX0_has 18 = .ok (.ireturn, 1) := by decide +kernel
theorem dX0_soundingLength_0 : decode cX0_soundingLength 0 = .ok (.aload_n 0, 1) := by decide +kernel
theorem dX0_soundingLength_1 : decode cX0_soundingLength 1 = .ok (.getfield 19, 3) := by decide +kernel
theorem dX0_soundingLength_4 : decode cX0_soundingLength 4 = .ok (.iload_n 1, 1) := by decide +kernel
theorem dX0_soundingLength_5 : decode cX0_soundingLength 5 = .ok (.iaload, 1) := by decide +kernel
theorem dX0_soundingLength_6 : decode cX0_soundingLength 6 = .ok (.aload_n 0, 1) := by decide +kernel
theorem dX0_soundingLength_7 : decode cX0_soundingLength 7 = .ok (.getfield 22, 3) := by decide +kernel
theorem dX0_soundingLength_10 : decode cX0_soundingLength 10 = .ok (.iload_n 1, 1) := by decide +kernel
theorem dX0_soundingLength_11 : decode cX0_soundingLength 11 = .ok (.iaload, 1) := by decide +kernel
theorem dX0_soundingLength_12 : decode cX0_soundingLength 12 = .ok (.iadd, 1) := by decide +kernel
theorem dX0_soundingLength_13 : decode cX0_soundingLength 13 = .ok (.ireturn, 1) := by decide +kernel
set_option maxRecDepth 20000 in
theorem ggX0_toneOf_X0_toneBent : GoodIn wsX0_toneOf wsX0_toneBent := goodIn_r _ [6, 7, 8, 9, 10, 11, 12, 13, 14] (by decide +kernel) (by decide +kernel)
set_option maxRecDepth 20000 in
theorem gX0_toneOf_X0_toneBent : GoodIn wsX0_toneOf (wsV RX0 28 RX0 yX0_toneBent wsX0_toneBent) := goodIn_app (goodIn_of _ (by decide +kernel)) ggX0_toneOf_X0_toneBent
theorem dX0_toneOf_0 : decode cX0_toneOf 0 = .ok (.aload_n 0, 1) := by decide +kernel
theorem dX0_toneOf_1 : decode cX0_toneOf 1 = .ok (.iload_n 1, 1) := by decide +kernel
theorem dX0_toneOf_2 : decode cX0_toneOf 2 = .ok (.aload_n 0, 1) := by decide +kernel
theorem dX0_toneOf_3 : decode cX0_toneOf 3 = .ok (.getfield 22, 3) := by decide +kernel
theorem dX0_toneOf_6 : decode cX0_toneOf 6 = .ok (.iload_n 1, 1) := by decide +kernel
theorem dX0_toneOf_7 : decode cX0_toneOf 7 = .ok (.iaload, 1) := by decide +kernel
theorem dX0_toneOf_8 : decode cX0_toneOf 8 = .ok (.invokevirtual 28, 3) := by decide +kernel
theorem dX0_toneOf_11 : decode cX0_toneOf 11 = .ok (.ireturn, 1) := by decide +kernel
theorem dX0_toneBent_0 : decode cX0_toneBent 0 = .ok (.aload_n 0, 1) := by decide +kernel
theorem dX0_toneBent_1 : decode cX0_toneBent 1 = .ok (.getfield 19, 3) := by decide +kernel
theorem dX0_toneBent_4 : decode cX0_toneBent 4 = .ok (.iload_n 1, 1) := by decide +kernel
theorem dX0_toneBent_5 : decode cX0_toneBent 5 = .ok (.iaload, 1) := by decide +kernel
theorem dX0_toneBent_6 : decode cX0_toneBent 6 = .ok (.iload_n 2, 1) := by decide +kernel
theorem dX0_toneBent_7 : decode cX0_toneBent 7 = .ok (.iadd, 1) := by decide +kernel
theorem dX0_toneBent_8 : decode cX0_toneBent 8 = .ok (.istore_n 3, 1) := by decide +kernel
theorem dX0_toneBent_9 : decode cX0_toneBent 9 = .ok (.iload_n 3, 1) := by decide +kernel
theorem dX0_toneBent_10 : decode cX0_toneBent 10 = .ok (.iconst 1, 1) := by decide +kernel
theorem dX0_toneBent_11 : decode cX0_toneBent 11 = .ok (.if_icmp .ge 7, 3) := by decide +kernel
theorem dX0_toneBent_14 : decode cX0_toneBent 14 = .ok (.iconst 0, 1) := by decide +kernel
theorem dX0_toneBent_15 : decode cX0_toneBent 15 = .ok (.goto 20, 3) := by decide +kernel
theorem dX0_toneBent_18 : decode cX0_toneBent 18 = .ok (.aload_n 0, 1) := by decide +kernel
theorem dX0_toneBent_19 : decode cX0_toneBent 19 = .ok (.getfield 25, 3) := by decide +kernel
theorem dX0_toneBent_22 : decode cX0_toneBent 22 = .ok (.aload_n 0, 1) := by decide +kernel
theorem dX0_toneBent_23 : decode cX0_toneBent 23 = .ok (.getfield 15, 3) := by decide +kernel
theorem dX0_toneBent_26 : decode cX0_toneBent 26 = .ok (.iload_n 1, 1) := by decide +kernel
theorem dX0_toneBent_27 : decode cX0_toneBent 27 = .ok (.iaload, 1) := by decide +kernel
theorem dX0_toneBent_28 : decode cX0_toneBent 28 = .ok (.iaload, 1) := by decide +kernel
theorem dX0_toneBent_29 : decode cX0_toneBent 29 = .ok (.sipush 10000, 3) := by decide +kernel
theorem dX0_toneBent_32 : decode cX0_toneBent 32 = .ok (.imul, 1) := by decide +kernel
theorem dX0_toneBent_33 : decode cX0_toneBent 33 = .ok (.iload_n 3, 1) := by decide +kernel
theorem dX0_toneBent_34 : decode cX0_toneBent 34 = .ok (.idiv, 1) := by decide +kernel
theorem dX0_toneBent_35 : decode cX0_toneBent 35 = .ok (.ireturn, 1) := by decide +kernel
set_option maxRecDepth 20000 in
theorem ggX0_strikes_X0_has : GoodIn wsX0_strikes wsX0_has := goodIn_r _ [6, 7, 8, 9, 10, 11, 12] (by decide +kernel) (by decide +kernel)
set_option maxRecDepth 20000 in
theorem gX0_strikes_X0_has : GoodIn wsX0_strikes (wsV RX0 32 RX0 yX0_has wsX0_has) := goodIn_app (goodIn_of _ (by decide +kernel)) ggX0_strikes_X0_has
theorem dX0_strikes_0 : decode cX0_strikes 0 = .ok (.aload_n 0, 1) := by decide +kernel
theorem dX0_strikes_1 : decode cX0_strikes 1 = .ok (.iload_n 1, 1) := by decide +kernel
theorem dX0_strikes_2 : decode cX0_strikes 2 = .ok (.invokevirtual 32, 3) := by decide +kernel
theorem dX0_strikes_5 : decode cX0_strikes 5 = .ok (.ifCond .eq 17, 3) := by decide +kernel
theorem dX0_strikes_8 : decode cX0_strikes 8 = .ok (.aload_n 0, 1) := by decide +kernel
theorem dX0_strikes_9 : decode cX0_strikes 9 = .ok (.getfield 15, 3) := by decide +kernel
theorem dX0_strikes_12 : decode cX0_strikes 12 = .ok (.iload_n 1, 1) := by decide +kernel
theorem dX0_strikes_13 : decode cX0_strikes 13 = .ok (.iaload, 1) := by decide +kernel
theorem dX0_strikes_14 : decode cX0_strikes 14 = .ok (.iload_n 2, 1) := by decide +kernel
theorem dX0_strikes_15 : decode cX0_strikes 15 = .ok (.if_icmp .ne 7, 3) := by decide +kernel
theorem dX0_strikes_18 : decode cX0_strikes 18 = .ok (.iconst 1, 1) := by decide +kernel
theorem dX0_strikes_19 : decode cX0_strikes 19 = .ok (.goto 4, 3) := by decide +kernel
theorem dX0_strikes_22 : decode cX0_strikes 22 = .ok (.iconst 0, 1) := by decide +kernel
theorem dX0_strikes_23 : decode cX0_strikes 23 = .ok (.ireturn, 1) := by decide +kernel
set_option maxRecDepth 20000 in
theorem ggX0_doShare_X0_has : GoodIn wsX0_doShare wsX0_has := goodIn_r _ [6, 7, 8, 9, 10, 11, 12] (by decide +kernel) (by decide +kernel)
set_option maxRecDepth 20000 in
theorem gX0_doShare_X0_has : GoodIn wsX0_doShare (wsV RX0 32 RX0 yX0_has wsX0_has) := goodIn_app (goodIn_of _ (by decide +kernel)) ggX0_doShare_X0_has
theorem dX0_doShare_0 : decode cX0_doShare 0 = .ok (.iload_n 1, 1) := by decide +kernel
theorem dX0_doShare_1 : decode cX0_doShare 1 = .ok (.iload_n 2, 1) := by decide +kernel
theorem dX0_doShare_2 : decode cX0_doShare 2 = .ok (.if_icmp .eq 38, 3) := by decide +kernel
theorem dX0_doShare_5 : decode cX0_doShare 5 = .ok (.aload_n 0, 1) := by decide +kernel
theorem dX0_doShare_6 : decode cX0_doShare 6 = .ok (.iload_n 1, 1) := by decide +kernel
theorem dX0_doShare_7 : decode cX0_doShare 7 = .ok (.invokevirtual 32, 3) := by decide +kernel
theorem dX0_doShare_10 : decode cX0_doShare 10 = .ok (.ifCond .eq 30, 3) := by decide +kernel
theorem dX0_doShare_13 : decode cX0_doShare 13 = .ok (.aload_n 0, 1) := by decide +kernel
theorem dX0_doShare_14 : decode cX0_doShare 14 = .ok (.iload_n 2, 1) := by decide +kernel
theorem dX0_doShare_15 : decode cX0_doShare 15 = .ok (.invokevirtual 32, 3) := by decide +kernel
theorem dX0_doShare_18 : decode cX0_doShare 18 = .ok (.ifCond .eq 22, 3) := by decide +kernel
theorem dX0_doShare_21 : decode cX0_doShare 21 = .ok (.aload_n 0, 1) := by decide +kernel
theorem dX0_doShare_22 : decode cX0_doShare 22 = .ok (.getfield 15, 3) := by decide +kernel
theorem dX0_doShare_25 : decode cX0_doShare 25 = .ok (.iload_n 1, 1) := by decide +kernel
theorem dX0_doShare_26 : decode cX0_doShare 26 = .ok (.iaload, 1) := by decide +kernel
theorem dX0_doShare_27 : decode cX0_doShare 27 = .ok (.aload_n 0, 1) := by decide +kernel
theorem dX0_doShare_28 : decode cX0_doShare 28 = .ok (.getfield 15, 3) := by decide +kernel
theorem dX0_doShare_31 : decode cX0_doShare 31 = .ok (.iload_n 2, 1) := by decide +kernel
theorem dX0_doShare_32 : decode cX0_doShare 32 = .ok (.iaload, 1) := by decide +kernel
theorem dX0_doShare_33 : decode cX0_doShare 33 = .ok (.if_icmp .ne 7, 3) := by decide +kernel
theorem dX0_doShare_36 : decode cX0_doShare 36 = .ok (.iconst 1, 1) := by decide +kernel
theorem dX0_doShare_37 : decode cX0_doShare 37 = .ok (.goto 4, 3) := by decide +kernel
theorem dX0_doShare_40 : decode cX0_doShare 40 = .ok (.iconst 0, 1) := by decide +kernel
theorem dX0_doShare_41 : decode cX0_doShare 41 = .ok (.ireturn, 1) := by decide +kernel
theorem dX0_strikersOf_0 : decode cX0_strikersOf 0 = .ok (.iconst 0, 1) := by decide +kernel
theorem dX0_strikersOf_1 : decode cX0_strikersOf 1 = .ok (.istore_n 2, 1) := by decide +kernel
theorem dX0_strikersOf_2 : decode cX0_strikersOf 2 = .ok (.iconst 0, 1) := by decide +kernel
theorem dX0_strikersOf_3 : decode cX0_strikersOf 3 = .ok (.istore_n 3, 1) := by decide +kernel
theorem dX0_strikersOf_4 : decode cX0_strikersOf 4 = .ok (.iload_n 3, 1) := by decide +kernel
theorem dX0_strikersOf_5 : decode cX0_strikersOf 5 = .ok (.aload_n 0, 1) := by decide +kernel
theorem dX0_strikersOf_6 : decode cX0_strikersOf 6 = .ok (.getfield 9, 3) := by decide +kernel
theorem dX0_strikersOf_9 : decode cX0_strikersOf 9 = .ok (.if_icmp .ge 22, 3) := by decide +kernel
theorem dX0_strikersOf_12 : decode cX0_strikersOf 12 = .ok (.aload_n 0, 1) := by decide +kernel
theorem dX0_strikersOf_13 : decode cX0_strikersOf 13 = .ok (.getfield 15, 3) := by decide +kernel
theorem dX0_strikersOf_16 : decode cX0_strikersOf 16 = .ok (.iload_n 3, 1) := by decide +kernel
theorem dX0_strikersOf_17 : decode cX0_strikersOf 17 = .ok (.iaload, 1) := by decide +kernel
theorem dX0_strikersOf_18 : decode cX0_strikersOf 18 = .ok (.iload_n 1, 1) := by decide +kernel
theorem dX0_strikersOf_19 : decode cX0_strikersOf 19 = .ok (.if_icmp .ne 6, 3) := by decide +kernel
theorem dX0_strikersOf_22 : decode cX0_strikersOf 22 = .ok (.iinc 2 1, 3) := by decide +kernel
theorem dX0_strikersOf_25 : decode cX0_strikersOf 25 = .ok (.iinc 3 1, 3) := by decide +kernel
theorem dX0_strikersOf_28 : decode cX0_strikersOf 28 = .ok (.goto (-24), 3) := by decide +kernel
theorem dX0_strikersOf_31 : decode cX0_strikersOf 31 = .ok (.iload_n 2, 1) := by decide +kernel
theorem dX0_strikersOf_32 : decode cX0_strikersOf 32 = .ok (.ireturn, 1) := by decide +kernel
set_option maxRecDepth 20000 in
theorem ggX0_isInOrder_X0_doShare : GoodIn wsX0_isInOrder wsX0_doShare := goodIn_r _ [6, 7, 8, 9, 10, 5, 11, 1, 18, 19, 20, 21, 22] (by decide +kernel) (by decide +kernel)
set_option maxRecDepth 20000 in
theorem gX0_isInOrder_X0_doShare : GoodIn wsX0_isInOrder (wsV RX0 36 RX0 yX0_doShare wsX0_doShare) := goodIn_app (goodIn_of _ (by decide +kernel)) ggX0_isInOrder_X0_doShare
set_option maxRecDepth 20000 in
theorem ggX0_isInOrder_X0_soundingLength : GoodIn wsX0_isInOrder wsX0_soundingLength := goodIn_r _ [15, 16, 17, 18, 19, 20, 21, 22] (by decide +kernel) (by decide +kernel)
set_option maxRecDepth 20000 in
theorem gX0_isInOrder_X0_soundingLength : GoodIn wsX0_isInOrder (wsV RX0 40 RX0 yX0_soundingLength wsX0_soundingLength) := goodIn_app (goodIn_of _ (by decide +kernel)) ggX0_isInOrder_X0_soundingLength
theorem dX0_isInOrder_0 : decode cX0_isInOrder 0 = .ok (.iconst 1, 1) := by decide +kernel
theorem dX0_isInOrder_1 : decode cX0_isInOrder 1 = .ok (.istore_n 1, 1) := by decide +kernel
theorem dX0_isInOrder_2 : decode cX0_isInOrder 2 = .ok (.iload_n 1, 1) := by decide +kernel
theorem dX0_isInOrder_3 : decode cX0_isInOrder 3 = .ok (.aload_n 0, 1) := by decide +kernel
theorem dX0_isInOrder_4 : decode cX0_isInOrder 4 = .ok (.getfield 9, 3) := by decide +kernel
theorem dX0_isInOrder_7 : decode cX0_isInOrder 7 = .ok (.if_icmp .ge 46, 3) := by decide +kernel
theorem dX0_isInOrder_10 : decode cX0_isInOrder 10 = .ok (.iconst 0, 1) := by decide +kernel
theorem dX0_isInOrder_11 : decode cX0_isInOrder 11 = .ok (.istore_n 2, 1) := by decide +kernel
theorem dX0_isInOrder_12 : decode cX0_isInOrder 12 = .ok (.iload_n 2, 1) := by decide +kernel
theorem dX0_isInOrder_13 : decode cX0_isInOrder 13 = .ok (.iload_n 1, 1) := by decide +kernel
theorem dX0_isInOrder_14 : decode cX0_isInOrder 14 = .ok (.if_icmp .ge 33, 3) := by decide +kernel
theorem dX0_isInOrder_17 : decode cX0_isInOrder 17 = .ok (.aload_n 0, 1) := by decide +kernel
theorem dX0_isInOrder_18 : decode cX0_isInOrder 18 = .ok (.iload_n 2, 1) := by decide +kernel
theorem dX0_isInOrder_19 : decode cX0_isInOrder 19 = .ok (.iload_n 1, 1) := by decide +kernel
theorem dX0_isInOrder_20 : decode cX0_isInOrder 20 = .ok (.invokevirtual 36, 3) := by decide +kernel
theorem dX0_isInOrder_23 : decode cX0_isInOrder 23 = .ok (.ifCond .eq 18, 3) := by decide +kernel
theorem dX0_isInOrder_26 : decode cX0_isInOrder 26 = .ok (.aload_n 0, 1) := by decide +kernel
theorem dX0_isInOrder_27 : decode cX0_isInOrder 27 = .ok (.iload_n 2, 1) := by decide +kernel
theorem dX0_isInOrder_28 : decode cX0_isInOrder 28 = .ok (.invokevirtual 40, 3) := by decide +kernel
theorem dX0_isInOrder_31 : decode cX0_isInOrder 31 = .ok (.aload_n 0, 1) := by decide +kernel
theorem dX0_isInOrder_32 : decode cX0_isInOrder 32 = .ok (.iload_n 1, 1) := by decide +kernel
theorem dX0_isInOrder_33 : decode cX0_isInOrder 33 = .ok (.invokevirtual 40, 3) := by decide +kernel
theorem dX0_isInOrder_36 : decode cX0_isInOrder 36 = .ok (.if_icmp .gt 5, 3) := by decide +kernel
theorem dX0_isInOrder_39 : decode cX0_isInOrder 39 = .ok (.iconst 0, 1) := by decide +kernel
theorem dX0_isInOrder_40 : decode cX0_isInOrder 40 = .ok (.ireturn, 1) := by decide +kernel
theorem dX0_isInOrder_41 : decode cX0_isInOrder 41 = .ok (.iinc 2 1, 3) := by decide +kernel
theorem dX0_isInOrder_44 : decode cX0_isInOrder 44 = .ok (.goto (-32), 3) := by decide +kernel
theorem dX0_isInOrder_47 : decode cX0_isInOrder 47 = .ok (.iinc 1 1, 3) := by decide +kernel
theorem dX0_isInOrder_50 : decode cX0_isInOrder 50 = .ok (.goto (-48), 3) := by decide +kernel
theorem dX0_isInOrder_53 : decode cX0_isInOrder 53 = .ok (.iconst 1, 1) := by decide +kernel
theorem dX0_isInOrder_54 : decode cX0_isInOrder 54 = .ok (.ireturn, 1) := by decide +kernel
set_option maxRecDepth 20000 in
theorem ggX0_stopsNearer_X0_soundingLength : GoodIn wsX0_stopsNearer wsX0_soundingLength := goodIn_r _ [5, 6, 7, 8, 9, 10, 11, 12] (by decide +kernel) (by decide +kernel)
set_option maxRecDepth 20000 in
theorem gX0_stopsNearer_X0_soundingLength : GoodIn wsX0_stopsNearer (wsV RX0 40 RX0 yX0_soundingLength wsX0_soundingLength) := goodIn_app (goodIn_of _ (by decide +kernel)) ggX0_stopsNearer_X0_soundingLength
theorem dX0_stopsNearer_0 : decode cX0_stopsNearer 0 = .ok (.aload_n 0, 1) := by decide +kernel
theorem dX0_stopsNearer_1 : decode cX0_stopsNearer 1 = .ok (.iload_n 1, 1) := by decide +kernel
theorem dX0_stopsNearer_2 : decode cX0_stopsNearer 2 = .ok (.invokevirtual 40, 3) := by decide +kernel
theorem dX0_stopsNearer_5 : decode cX0_stopsNearer 5 = .ok (.istore_n 3, 1) := by decide +kernel
theorem dX0_stopsNearer_6 : decode cX0_stopsNearer 6 = .ok (.aload_n 0, 1) := by decide +kernel
theorem dX0_stopsNearer_7 : decode cX0_stopsNearer 7 = .ok (.iload_n 2, 1) := by decide +kernel
theorem dX0_stopsNearer_8 : decode cX0_stopsNearer 8 = .ok (.invokevirtual 40, 3) := by decide +kernel
theorem dX0_stopsNearer_11 : decode cX0_stopsNearer 11 = .ok (.istore 4, 2) := by decide +kernel
theorem dX0_stopsNearer_13 : decode cX0_stopsNearer 13 = .ok (.iload_n 3, 1) := by decide +kernel
theorem dX0_stopsNearer_14 : decode cX0_stopsNearer 14 = .ok (.iload 4, 2) := by decide +kernel
theorem dX0_stopsNearer_16 : decode cX0_stopsNearer 16 = .ok (.if_icmp .lt 14, 3) := by decide +kernel
theorem dX0_stopsNearer_19 : decode cX0_stopsNearer 19 = .ok (.iload_n 3, 1) := by decide +kernel
theorem dX0_stopsNearer_20 : decode cX0_stopsNearer 20 = .ok (.iload 4, 2) := by decide +kernel
theorem dX0_stopsNearer_22 : decode cX0_stopsNearer 22 = .ok (.if_icmp .ne 12, 3) := by decide +kernel
theorem dX0_stopsNearer_25 : decode cX0_stopsNearer 25 = .ok (.iload_n 1, 1) := by decide +kernel
theorem dX0_stopsNearer_26 : decode cX0_stopsNearer 26 = .ok (.iload_n 2, 1) := by decide +kernel
theorem dX0_stopsNearer_27 : decode cX0_stopsNearer 27 = .ok (.if_icmp .ge 7, 3) := by decide +kernel
theorem dX0_stopsNearer_30 : decode cX0_stopsNearer 30 = .ok (.iconst 1, 1) := by decide +kernel
theorem dX0_stopsNearer_31 : decode cX0_stopsNearer 31 = .ok (.goto 4, 3) := by decide +kernel
theorem dX0_stopsNearer_34 : decode cX0_stopsNearer 34 = .ok (.iconst 0, 1) := by decide +kernel
theorem dX0_stopsNearer_35 : decode cX0_stopsNearer 35 = .ok (.ireturn, 1) := by decide +kernel
set_option maxRecDepth 20000 in
theorem ggX0_countStruck_X0_strikersOf : GoodIn wsX0_countStruck wsX0_strikersOf := goodIn_r _ [5, 6, 7, 8, 9, 10, 11, 12] (by decide +kernel) (by decide +kernel)
set_option maxRecDepth 20000 in
theorem gX0_countStruck_X0_strikersOf : GoodIn wsX0_countStruck (wsV RX0 44 RX0 yX0_strikersOf wsX0_strikersOf) := goodIn_app (goodIn_of _ (by decide +kernel)) ggX0_countStruck_X0_strikersOf
theorem dX0_countStruck_0 : decode cX0_countStruck 0 = .ok (.iconst 0, 1) := by decide +kernel
theorem dX0_countStruck_1 : decode cX0_countStruck 1 = .ok (.istore_n 1, 1) := by decide +kernel
theorem dX0_countStruck_2 : decode cX0_countStruck 2 = .ok (.iconst 0, 1) := by decide +kernel
theorem dX0_countStruck_3 : decode cX0_countStruck 3 = .ok (.istore_n 2, 1) := by decide +kernel
theorem dX0_countStruck_4 : decode cX0_countStruck 4 = .ok (.iload_n 2, 1) := by decide +kernel
theorem dX0_countStruck_5 : decode cX0_countStruck 5 = .ok (.bipush 24, 2) := by decide +kernel
theorem dX0_countStruck_7 : decode cX0_countStruck 7 = .ok (.if_icmp .ge 20, 3) := by decide +kernel
theorem dX0_countStruck_10 : decode cX0_countStruck 10 = .ok (.aload_n 0, 1) := by decide +kernel
theorem dX0_countStruck_11 : decode cX0_countStruck 11 = .ok (.iload_n 2, 1) := by decide +kernel
theorem dX0_countStruck_12 : decode cX0_countStruck 12 = .ok (.invokevirtual 44, 3) := by decide +kernel
theorem dX0_countStruck_15 : decode cX0_countStruck 15 = .ok (.ifCond .le 6, 3) := by decide +kernel
theorem dX0_countStruck_18 : decode cX0_countStruck 18 = .ok (.iinc 1 1, 3) := by decide +kernel
theorem dX0_countStruck_21 : decode cX0_countStruck 21 = .ok (.iinc 2 1, 3) := by decide +kernel
theorem dX0_countStruck_24 : decode cX0_countStruck 24 = .ok (.goto (-20), 3) := by decide +kernel
theorem dX0_countStruck_27 : decode cX0_countStruck 27 = .ok (.iload_n 1, 1) := by decide +kernel
theorem dX0_countStruck_28 : decode cX0_countStruck 28 = .ok (.ireturn, 1) := by decide +kernel
theorem dX0_countBent_0 : decode cX0_countBent 0 = .ok (.iconst 0, 1) := by decide +kernel
theorem dX0_countBent_1 : decode cX0_countBent 1 = .ok (.istore_n 1, 1) := by decide +kernel
theorem dX0_countBent_2 : decode cX0_countBent 2 = .ok (.iconst 0, 1) := by decide +kernel
theorem dX0_countBent_3 : decode cX0_countBent 3 = .ok (.istore_n 2, 1) := by decide +kernel
theorem dX0_countBent_4 : decode cX0_countBent 4 = .ok (.iload_n 2, 1) := by decide +kernel
theorem dX0_countBent_5 : decode cX0_countBent 5 = .ok (.aload_n 0, 1) := by decide +kernel
theorem dX0_countBent_6 : decode cX0_countBent 6 = .ok (.getfield 9, 3) := by decide +kernel
theorem dX0_countBent_9 : decode cX0_countBent 9 = .ok (.if_icmp .ge 21, 3) := by decide +kernel
theorem dX0_countBent_12 : decode cX0_countBent 12 = .ok (.aload_n 0, 1) := by decide +kernel
theorem dX0_countBent_13 : decode cX0_countBent 13 = .ok (.getfield 22, 3) := by decide +kernel
theorem dX0_countBent_16 : decode cX0_countBent 16 = .ok (.iload_n 2, 1) := by decide +kernel
theorem dX0_countBent_17 : decode cX0_countBent 17 = .ok (.iaload, 1) := by decide +kernel
theorem dX0_countBent_18 : decode cX0_countBent 18 = .ok (.ifCond .eq 6, 3) := by decide +kernel
theorem dX0_countBent_21 : decode cX0_countBent 21 = .ok (.iinc 1 1, 3) := by decide +kernel
theorem dX0_countBent_24 : decode cX0_countBent 24 = .ok (.iinc 2 1, 3) := by decide +kernel
theorem dX0_countBent_27 : decode cX0_countBent 27 = .ok (.goto (-23), 3) := by decide +kernel
theorem dX0_countBent_30 : decode cX0_countBent 30 = .ok (.iload_n 1, 1) := by decide +kernel
theorem dX0_countBent_31 : decode cX0_countBent 31 = .ok (.ireturn, 1) := by decide +kernel
theorem dX1_init_0 : decode cX1_init 0 = .ok (.aload_n 0, 1) := by decide +kernel
theorem dX1_init_1 : decode cX1_init 1 = .ok (.invokespecial 3, 3) := by decide +kernel
theorem dX1_init_4 : decode cX1_init 4 = .ok (.aload_n 0, 1) := by decide +kernel
theorem dX1_init_5 : decode cX1_init 5 = .ok (.sipush 160, 3) := by decide +kernel
theorem dX1_init_8 : decode cX1_init 8 = .ok (.newarray .int, 2) := by decide +kernel
theorem dX1_init_10 : decode cX1_init 10 = .ok (.putfield 9, 3) := by decide +kernel
theorem dX1_init_13 : decode cX1_init 13 = .ok (.aload_n 0, 1) := by decide +kernel
theorem dX1_init_14 : decode cX1_init 14 = .ok (.sipush 160, 3) := by decide +kernel
theorem dX1_init_17 : decode cX1_init 17 = .ok (.newarray .int, 2) := by decide +kernel
theorem dX1_init_19 : decode cX1_init 19 = .ok (.putfield 15, 3) := by decide +kernel
theorem dX1_init_22 : decode cX1_init 22 = .ok (.aload_n 0, 1) := by decide +kernel
theorem dX1_init_23 : decode cX1_init 23 = .ok (.sipush 160, 3) := by decide +kernel
theorem dX1_init_26 : decode cX1_init 26 = .ok (.newarray .int, 2) := by decide +kernel
theorem dX1_init_28 : decode cX1_init 28 = .ok (.putfield 18, 3) := by decide +kernel
theorem dX1_init_31 : decode cX1_init 31 = .ok (.aload_n 0, 1) := by decide +kernel
theorem dX1_init_32 : decode cX1_init 32 = .ok (.iconst 4, 1) := by decide +kernel
theorem dX1_init_33 : decode cX1_init 33 = .ok (.newarray .int, 2) := by decide +kernel
theorem dX1_init_35 : decode cX1_init 35 = .ok (.putfield 21, 3) := by decide +kernel
theorem dX1_init_38 : decode cX1_init 38 = .ok (.aload_n 0, 1) := by decide +kernel
theorem dX1_init_39 : decode cX1_init 39 = .ok (.aload_n 1, 1) := by decide +kernel
theorem dX1_init_40 : decode cX1_init 40 = .ok (.putfield 24, 3) := by decide +kernel
theorem dX1_init_43 : decode cX1_init 43 = .ok (.return_, 1) := by decide +kernel
theorem dX1_startOf_0 : decode cX1_startOf 0 = .ok (.iload_n 1, 1) := by decide +kernel
theorem dX1_startOf_1 : decode cX1_startOf 1 = .ok (.bipush 40, 2) := by decide +kernel
theorem dX1_startOf_3 : decode cX1_startOf 3 = .ok (.imul, 1) := by decide +kernel
theorem dX1_startOf_4 : decode cX1_startOf 4 = .ok (.ireturn, 1) := by decide +kernel
theorem dX1_endOf_0 : decode cX1_endOf 0 = .ok (.iload_n 1, 1) := by decide +kernel
theorem dX1_endOf_1 : decode cX1_endOf 1 = .ok (.bipush 40, 2) := by decide +kernel
theorem dX1_endOf_3 : decode cX1_endOf 3 = .ok (.imul, 1) := by decide +kernel
theorem dX1_endOf_4 : decode cX1_endOf 4 = .ok (.aload_n 0, 1) := by decide +kernel
theorem dX1_endOf_5 : decode cX1_endOf 5 = .ok (.getfield 21, 3) := by decide +kernel
theorem dX1_endOf_8 : decode cX1_endOf 8 = .ok (.iload_n 1, 1) := by decide +kernel
theorem dX1_endOf_9 : decode cX1_endOf 9 = .ok (.iaload, 1) := by decide +kernel
theorem dX1_endOf_10 : decode cX1_endOf 10 = .ok (.iadd, 1) := by decide +kernel
theorem dX1_endOf_11 : decode cX1_endOf 11 = .ok (.ireturn, 1) := by decide +kernel
theorem dX1_isFull_0 : decode cX1_isFull 0 = .ok (.aload_n 0, 1) := by decide +kernel
theorem dX1_isFull_1 : decode cX1_isFull 1 = .ok (.getfield 21, 3) := by decide +kernel
theorem dX1_isFull_4 : decode cX1_isFull 4 = .ok (.iload_n 1, 1) := by decide +kernel
theorem dX1_isFull_5 : decode cX1_isFull 5 = .ok (.iaload, 1) := by decide +kernel
theorem dX1_isFull_6 : decode cX1_isFull 6 = .ok (.bipush 40, 2) := by decide +kernel
theorem dX1_isFull_8 : decode cX1_isFull 8 = .ok (.if_icmp .lt 7, 3) := by decide +kernel
theorem dX1_isFull_11 : decode cX1_isFull 11 = .ok (.iconst 1, 1) := by decide +kernel
theorem dX1_isFull_12 : decode cX1_isFull 12 = .ok (.goto 4, 3) := by decide +kernel
theorem dX1_isFull_15 : decode cX1_isFull 15 = .ok (.iconst 0, 1) := by decide +kernel
theorem dX1_isFull_16 : decode cX1_isFull 16 = .ok (.ireturn, 1) := by decide +kernel
set_option maxRecDepth 20000 in
theorem ggX1_lastBegin_X1_endOf : GoodIn wsX1_lastBegin wsX1_endOf := goodIn_r _ [7, 1, 8, 9, 10, 11, 12] (by decide +kernel) (by decide +kernel)
set_option maxRecDepth 20000 in
theorem gX1_lastBegin_X1_endOf : GoodIn wsX1_lastBegin (wsV RX1 28 RX1 yX1_endOf wsX1_endOf) := goodIn_app (goodIn_of _ (by decide +kernel)) ggX1_lastBegin_X1_endOf
theorem dX1_lastBegin_0 : decode cX1_lastBegin 0 = .ok (.aload_n 0, 1) := by decide +kernel
theorem dX1_lastBegin_1 : decode cX1_lastBegin 1 = .ok (.getfield 21, 3) := by decide +kernel
theorem dX1_lastBegin_4 : decode cX1_lastBegin 4 = .ok (.iload_n 1, 1) := by decide +kernel
theorem dX1_lastBegin_5 : decode cX1_lastBegin 5 = .ok (.iaload, 1) := by decide +kernel
theorem dX1_lastBegin_6 : decode cX1_lastBegin 6 = .ok (.ifCond .ne 7, 3) := by decide +kernel
theorem dX1_lastBegin_9 : decode cX1_lastBegin 9 = .ok (.iconst 0, 1) := by decide +kernel
theorem dX1_lastBegin_10 : decode cX1_lastBegin 10 = .ok (.goto 15, 3) := by decide +kernel
theorem dX1_lastBegin_13 : decode cX1_lastBegin 13 = .ok (.aload_n 0, 1) := by decide +kernel
theorem dX1_lastBegin_14 : decode cX1_lastBegin 14 = .ok (.getfield 15, 3) := by decide +kernel
theorem dX1_lastBegin_17 : decode cX1_lastBegin 17 = .ok (.aload_n 0, 1) := by decide +kernel
theorem dX1_lastBegin_18 : decode cX1_lastBegin 18 = .ok (.iload_n 1, 1) := by decide +kernel
theorem dX1_lastBegin_19 : decode cX1_lastBegin 19 = .ok (.invokevirtual 28, 3) := by decide +kernel
theorem dX1_lastBegin_22 : decode cX1_lastBegin 22 = .ok (.iconst 1, 1) := by decide +kernel
theorem dX1_lastBegin_23 : decode cX1_lastBegin 23 = .ok (.isub, 1) := by decide +kernel
theorem dX1_lastBegin_24 : decode cX1_lastBegin 24 = .ok (.iaload, 1) := by decide +kernel
theorem dX1_lastBegin_25 : decode cX1_lastBegin 25 = .ok (.ireturn, 1) := by decide +kernel
set_option maxRecDepth 20000 in
theorem ggX1_append_X1_endOf : GoodIn wsX1_append wsX1_endOf := goodIn_r _ [9, 4, 10, 11, 12, 13, 14] (by decide +kernel) (by decide +kernel)
set_option maxRecDepth 20000 in
theorem gX1_append_X1_endOf : GoodIn wsX1_append (wsV RX1 28 RX1 yX1_endOf wsX1_endOf) := goodIn_app (goodIn_of _ (by decide +kernel)) ggX1_append_X1_endOf
theorem dX1_append_0 : decode cX1_append 0 = .ok (.aload_n 0, 1) := by decide +kernel
theorem dX1_append_1 : decode cX1_append 1 = .ok (.iload_n 1, 1) := by decide +kernel
theorem dX1_append_2 : decode cX1_append 2 = .ok (.invokevirtual 28, 3) := by decide +kernel
theorem dX1_append_5 : decode cX1_append 5 = .ok (.istore 5, 2) := by decide +kernel
theorem dX1_append_7 : decode cX1_append 7 = .ok (.aload_n 0, 1) := by decide +kernel
theorem dX1_append_8 : decode cX1_append 8 = .ok (.getfield 9, 3) := by decide +kernel
theorem dX1_append_11 : decode cX1_append 11 = .ok (.iload 5, 2) := by decide +kernel
theorem dX1_append_13 : decode cX1_append 13 = .ok (.iload_n 2, 1) := by decide +kernel
theorem dX1_append_14 : decode cX1_append 14 = .ok (.iastore, 1) := by decide +kernel
theorem dX1_append_15 : decode cX1_append 15 = .ok (.aload_n 0, 1) := by decide +kernel
theorem dX1_append_16 : decode cX1_append 16 = .ok (.getfield 15, 3) := by decide +kernel
theorem dX1_append_19 : decode cX1_append 19 = .ok (.iload 5, 2) := by decide +kernel
theorem dX1_append_21 : decode cX1_append 21 = .ok (.iload_n 3, 1) := by decide +kernel
theorem dX1_append_22 : decode cX1_append 22 = .ok (.iastore, 1) := by decide +kernel
theorem dX1_append_23 : decode cX1_append 23 = .ok (.aload_n 0, 1) := by decide +kernel
theorem dX1_append_24 : decode cX1_append 24 = .ok (.getfield 18, 3) := by decide +kernel
theorem dX1_append_27 : decode cX1_append 27 = .ok (.iload 5, 2) := by decide +kernel
theorem dX1_append_29 : decode cX1_append 29 = .ok (.iload 4, 2) := by decide +kernel
theorem dX1_append_31 : decode cX1_append 31 = .ok (.iastore, 1) := by decide +kernel
theorem dX1_append_32 : decode cX1_append 32 = .ok (.aload_n 0, 1) := by decide +kernel
theorem dX1_append_33 : decode cX1_append 33 = .ok (.getfield 21, 3) := by decide +kernel
theorem dX1_append_36 : decode cX1_append 36 = .ok (.iload_n 1, 1) := by decide +kernel
theorem dX1_append_37 : decode cX1_append 37 = .ok (.dup2, 1) := by decide +kernel
theorem dX1_append_38 : decode cX1_append 38 = .ok (.iaload, 1) := by decide +kernel
theorem dX1_append_39 : decode cX1_append 39 = .ok (.iconst 1, 1) := by decide +kernel
theorem dX1_append_40 : decode cX1_append 40 = .ok (.iadd, 1) := by decide +kernel
theorem dX1_append_41 : decode cX1_append 41 = .ok (.iastore, 1) := by decide +kernel
theorem dX1_append_42 : decode cX1_append 42 = .ok (.aload_n 0, 1) := by decide +kernel
theorem dX1_append_43 : decode cX1_append 43 = .ok (.getfield 21, 3) := by decide +kernel
theorem dX1_append_46 : decode cX1_append 46 = .ok (.iload_n 1, 1) := by decide +kernel
theorem dX1_append_47 : decode cX1_append 47 = .ok (.iaload, 1) := by decide +kernel
theorem dX1_append_48 : decode cX1_append 48 = .ok (.iconst 1, 1) := by decide +kernel
theorem dX1_append_49 : decode cX1_append 49 = .ok (.isub, 1) := by decide +kernel
theorem dX1_append_50 : decode cX1_append 50 = .ok (.ireturn, 1) := by decide +kernel
theorem dX1_countNotes_0 : decode cX1_countNotes 0 = .ok (.iconst 0, 1) := by decide +kernel
theorem dX1_countNotes_1 : decode cX1_countNotes 1 = .ok (.istore_n 1, 1) := by decide +kernel
theorem dX1_countNotes_2 : decode cX1_countNotes 2 = .ok (.iconst 0, 1) := by decide +kernel
theorem dX1_countNotes_3 : decode cX1_countNotes 3 = .ok (.istore_n 2, 1) := by decide +kernel
theorem dX1_countNotes_4 : decode cX1_countNotes 4 = .ok (.iload_n 2, 1) := by decide +kernel
theorem dX1_countNotes_5 : decode cX1_countNotes 5 = .ok (.iconst 4, 1) := by decide +kernel
theorem dX1_countNotes_6 : decode cX1_countNotes 6 = .ok (.if_icmp .ge 18, 3) := by decide +kernel
theorem dX1_countNotes_9 : decode cX1_countNotes 9 = .ok (.iload_n 1, 1) := by decide +kernel
theorem dX1_countNotes_10 : decode cX1_countNotes 10 = .ok (.aload_n 0, 1) := by decide +kernel
theorem dX1_countNotes_11 : decode cX1_countNotes 11 = .ok (.getfield 21, 3) := by decide +kernel
theorem dX1_countNotes_14 : decode cX1_countNotes 14 = .ok (.iload_n 2, 1) := by decide +kernel
theorem dX1_countNotes_15 : decode cX1_countNotes 15 = .ok (.iaload, 1) := by decide +kernel
theorem dX1_countNotes_16 : decode cX1_countNotes 16 = .ok (.iadd, 1) := by decide +kernel
theorem dX1_countNotes_17 : decode cX1_countNotes 17 = .ok (.istore_n 1, 1) := by decide +kernel
theorem dX1_countNotes_18 : decode cX1_countNotes 18 = .ok (.iinc 2 1, 3) := by decide +kernel
theorem dX1_countNotes_21 : decode cX1_countNotes 21 = .ok (.goto (-17), 3) := by decide +kernel
theorem dX1_countNotes_24 : decode cX1_countNotes 24 = .ok (.iload_n 1, 1) := by decide +kernel
theorem dX1_countNotes_25 : decode cX1_countNotes 25 = .ok (.ireturn, 1) := by decide +kernel
theorem dX1_tickBehind_0 : decode cX1_tickBehind 0 = .ok (.aload_n 0, 1) := by decide +kernel
theorem dX1_tickBehind_1 : decode cX1_tickBehind 1 = .ok (.getfield 15, 3) := by decide +kernel
theorem dX1_tickBehind_4 : decode cX1_tickBehind 4 = .ok (.iload_n 1, 1) := by decide +kernel
theorem dX1_tickBehind_5 : decode cX1_tickBehind 5 = .ok (.iaload, 1) := by decide +kernel
theorem dX1_tickBehind_6 : decode cX1_tickBehind 6 = .ok (.aload_n 0, 1) := by decide +kernel
theorem dX1_tickBehind_7 : decode cX1_tickBehind 7 = .ok (.getfield 18, 3) := by decide +kernel
theorem dX1_tickBehind_10 : decode cX1_tickBehind 10 = .ok (.iload_n 1, 1) := by decide +kernel
theorem dX1_tickBehind_11 : decode cX1_tickBehind 11 = .ok (.iaload, 1) := by decide +kernel
theorem dX1_tickBehind_12 : decode cX1_tickBehind 12 = .ok (.iadd, 1) := by decide +kernel
theorem dX1_tickBehind_13 : decode cX1_tickBehind 13 = .ok (.ireturn, 1) := by decide +kernel
set_option maxRecDepth 20000 in
theorem ggX1_soundsAt_X1_tickBehind : GoodIn wsX1_soundsAt wsX1_tickBehind := goodIn_r _ [6, 1, 7, 8, 9, 10, 11, 12] (by decide +kernel) (by decide +kernel)
set_option maxRecDepth 20000 in
theorem gX1_soundsAt_X1_tickBehind : GoodIn wsX1_soundsAt (wsV RX1 32 RX1 yX1_tickBehind wsX1_tickBehind) := goodIn_app (goodIn_of _ (by decide +kernel)) ggX1_soundsAt_X1_tickBehind
theorem dX1_soundsAt_0 : decode cX1_soundsAt 0 = .ok (.aload_n 0, 1) := by decide +kernel
theorem dX1_soundsAt_1 : decode cX1_soundsAt 1 = .ok (.getfield 15, 3) := by decide +kernel
theorem dX1_soundsAt_4 : decode cX1_soundsAt 4 = .ok (.iload_n 1, 1) := by decide +kernel
theorem dX1_soundsAt_5 : decode cX1_soundsAt 5 = .ok (.iaload, 1) := by decide +kernel
theorem dX1_soundsAt_6 : decode cX1_soundsAt 6 = .ok (.iload_n 2, 1) := by decide +kernel
theorem dX1_soundsAt_7 : decode cX1_soundsAt 7 = .ok (.if_icmp .gt 16, 3) := by decide +kernel
theorem dX1_soundsAt_10 : decode cX1_soundsAt 10 = .ok (.iload_n 2, 1) := by decide +kernel
theorem dX1_soundsAt_11 : decode cX1_soundsAt 11 = .ok (.aload_n 0, 1) := by decide +kernel
theorem dX1_soundsAt_12 : decode cX1_soundsAt 12 = .ok (.iload_n 1, 1) := by decide +kernel
theorem dX1_soundsAt_13 : decode cX1_soundsAt 13 = .ok (.invokevirtual 32, 3) := by decide +kernel
theorem dX1_soundsAt_16 : decode cX1_soundsAt 16 = .ok (.if_icmp .ge 7, 3) := by decide +kernel
theorem dX1_soundsAt_19 : decode cX1_soundsAt 19 = .ok (.iconst 1, 1) := by decide +kernel
theorem dX1_soundsAt_20 : decode cX1_soundsAt 20 = .ok (.goto 4, 3) := by decide +kernel
theorem dX1_soundsAt_23 : decode cX1_soundsAt 23 = .ok (.iconst 0, 1) := by decide +kernel
theorem dX1_soundsAt_24 : decode cX1_soundsAt 24 = .ok (.ireturn, 1) := by decide +kernel
set_option maxRecDepth 20000 in
theorem ggX1_soundAtOnce_X1_tickBehind : GoodIn wsX1_soundAtOnce wsX1_tickBehind := goodIn_r _ [6, 1, 7, 8, 9, 10, 11, 12] (by decide +kernel) (by decide +kernel)
set_option maxRecDepth 20000 in
theorem gX1_soundAtOnce_X1_tickBehind : GoodIn wsX1_soundAtOnce (wsV RX1 32 RX1 yX1_tickBehind wsX1_tickBehind) := goodIn_app (goodIn_of _ (by decide +kernel)) ggX1_soundAtOnce_X1_tickBehind
theorem dX1_soundAtOnce_0 : decode cX1_soundAtOnce 0 = .ok (.aload_n 0, 1) := by decide +kernel
theorem dX1_soundAtOnce_1 : decode cX1_soundAtOnce 1 = .ok (.getfield 15, 3) := by decide +kernel
theorem dX1_soundAtOnce_4 : decode cX1_soundAtOnce 4 = .ok (.iload_n 1, 1) := by decide +kernel
theorem dX1_soundAtOnce_5 : decode cX1_soundAtOnce 5 = .ok (.iaload, 1) := by decide +kernel
theorem dX1_soundAtOnce_6 : decode cX1_soundAtOnce 6 = .ok (.aload_n 0, 1) := by decide +kernel
theorem dX1_soundAtOnce_7 : decode cX1_soundAtOnce 7 = .ok (.iload_n 2, 1) := by decide +kernel
theorem dX1_soundAtOnce_8 : decode cX1_soundAtOnce 8 = .ok (.invokevirtual 32, 3) := by decide +kernel
theorem dX1_soundAtOnce_11 : decode cX1_soundAtOnce 11 = .ok (.if_icmp .ge 21, 3) := by decide +kernel
theorem dX1_soundAtOnce_14 : decode cX1_soundAtOnce 14 = .ok (.aload_n 0, 1) := by decide +kernel
theorem dX1_soundAtOnce_15 : decode cX1_soundAtOnce 15 = .ok (.getfield 15, 3) := by decide +kernel
theorem dX1_soundAtOnce_18 : decode cX1_soundAtOnce 18 = .ok (.iload_n 2, 1) := by decide +kernel
theorem dX1_soundAtOnce_19 : decode cX1_soundAtOnce 19 = .ok (.iaload, 1) := by decide +kernel
theorem dX1_soundAtOnce_20 : decode cX1_soundAtOnce 20 = .ok (.aload_n 0, 1) := by decide +kernel
theorem dX1_soundAtOnce_21 : decode cX1_soundAtOnce 21 = .ok (.iload_n 1, 1) := by decide +kernel
theorem dX1_soundAtOnce_22 : decode cX1_soundAtOnce 22 = .ok (.invokevirtual 32, 3) := by decide +kernel
theorem dX1_soundAtOnce_25 : decode cX1_soundAtOnce 25 = .ok (.if_icmp .ge 7, 3) := by decide +kernel
theorem dX1_soundAtOnce_28 : decode cX1_soundAtOnce 28 = .ok (.iconst 1, 1) := by decide +kernel
theorem dX1_soundAtOnce_29 : decode cX1_soundAtOnce 29 = .ok (.goto 4, 3) := by decide +kernel
theorem dX1_soundAtOnce_32 : decode cX1_soundAtOnce 32 = .ok (.iconst 0, 1) := by decide +kernel
theorem dX1_soundAtOnce_33 : decode cX1_soundAtOnce 33 = .ok (.ireturn, 1) := by decide +kernel
set_option maxRecDepth 20000 in
theorem ggX1_doClash_X0_doShare : GoodIn wsX1_doClash wsX0_doShare := goodIn_r _ [7, 8, 9, 10, 11, 6, 12, 13, 30, 31, 32, 33, 34] (by decide +kernel) (by decide +kernel)
set_option maxRecDepth 20000 in
theorem gX1_doClash_X0_doShare : GoodIn wsX1_doClash (wsV RX1 35 RX0 yX0_doShare wsX0_doShare) := goodIn_app (goodIn_of _ (by decide +kernel)) ggX1_doClash_X0_doShare
set_option maxRecDepth 20000 in
theorem ggX1_doClash_X1_soundAtOnce : GoodIn wsX1_doClash wsX1_soundAtOnce := goodIn_r _ [18, 19, 20, 21, 22, 17, 23, 24, 25, 26, 27, 28, 29] (by decide +kernel) (by decide +kernel)
set_option maxRecDepth 20000 in
theorem gX1_doClash_X1_soundAtOnce : GoodIn wsX1_doClash (wsV RX1 41 RX1 yX1_soundAtOnce wsX1_soundAtOnce) := goodIn_app (goodIn_of _ (by decide +kernel)) ggX1_doClash_X1_soundAtOnce
theorem dX1_doClash_0 : decode cX1_doClash 0 = .ok (.aload_n 0, 1) := by decide +kernel
theorem dX1_doClash_1 : decode cX1_doClash 1 = .ok (.getfield 24, 3) := by decide +kernel
theorem dX1_doClash_4 : decode cX1_doClash 4 = .ok (.aload_n 0, 1) := by decide +kernel
theorem dX1_doClash_5 : decode cX1_doClash 5 = .ok (.getfield 9, 3) := by decide +kernel
theorem dX1_doClash_8 : decode cX1_doClash 8 = .ok (.iload_n 1, 1) := by decide +kernel
theorem dX1_doClash_9 : decode cX1_doClash 9 = .ok (.iaload, 1) := by decide +kernel
theorem dX1_doClash_10 : decode cX1_doClash 10 = .ok (.aload_n 0, 1) := by decide +kernel
theorem dX1_doClash_11 : decode cX1_doClash 11 = .ok (.getfield 9, 3) := by decide +kernel
theorem dX1_doClash_14 : decode cX1_doClash 14 = .ok (.iload_n 2, 1) := by decide +kernel
theorem dX1_doClash_15 : decode cX1_doClash 15 = .ok (.iaload, 1) := by decide +kernel
theorem dX1_doClash_16 : decode cX1_doClash 16 = .ok (.invokevirtual 35, 3) := by decide +kernel
theorem dX1_doClash_19 : decode cX1_doClash 19 = .ok (.ifCond .eq 16, 3) := by decide +kernel
theorem dX1_doClash_22 : decode cX1_doClash 22 = .ok (.aload_n 0, 1) := by decide +kernel
theorem dX1_doClash_23 : decode cX1_doClash 23 = .ok (.iload_n 1, 1) := by decide +kernel
theorem dX1_doClash_24 : decode cX1_doClash 24 = .ok (.iload_n 2, 1) := by decide +kernel
theorem dX1_doClash_25 : decode cX1_doClash 25 = .ok (.invokevirtual 41, 3) := by decide +kernel
theorem dX1_doClash_28 : decode cX1_doClash 28 = .ok (.ifCond .eq 7, 3) := by decide +kernel
theorem dX1_doClash_31 : decode cX1_doClash 31 = .ok (.iconst 1, 1) := by decide +kernel
theorem dX1_doClash_32 : decode cX1_doClash 32 = .ok (.goto 4, 3) := by decide +kernel
theorem dX1_doClash_35 : decode cX1_doClash 35 = .ok (.iconst 0, 1) := by decide +kernel
theorem dX1_doClash_36 : decode cX1_doClash 36 = .ok (.ireturn, 1) := by decide +kernel
set_option maxRecDepth 20000 in
theorem ggX1_countClashes_X1_startOf : GoodIn wsX1_countClashes wsX1_startOf := goodIn_r _ [5] (by decide +kernel) (by decide +kernel)
set_option maxRecDepth 20000 in
theorem gX1_countClashes_X1_startOf : GoodIn wsX1_countClashes (wsV RX1 44 RX1 yX1_startOf wsX1_startOf) := goodIn_app (goodIn_of _ (by decide +kernel)) ggX1_countClashes_X1_startOf
set_option maxRecDepth 20000 in
theorem ggX1_countClashes_X1_endOf : GoodIn wsX1_countClashes wsX1_endOf := goodIn_r _ [9, 10, 38, 39, 40, 41, 42] (by decide +kernel) (by decide +kernel)
set_option maxRecDepth 20000 in
theorem gX1_countClashes_X1_endOf : GoodIn wsX1_countClashes (wsV RX1 28 RX1 yX1_endOf wsX1_endOf) := goodIn_app (goodIn_of _ (by decide +kernel)) ggX1_countClashes_X1_endOf
set_option maxRecDepth 20000 in
theorem ggX1_countClashes_X1_doClash : GoodIn wsX1_countClashes wsX1_doClash := goodIn_r _ [14, 15, 16, 17, 18, 19, 20, 21, 22, 23, 24, 25, 26, 27, 28, 29, 30, 4, 31, 32, 33, 34, 35, 36, 37, 38, 39, 40, 41, 42, 43, 44, 45, 46, 47] (by decide +kernel) (by decide +kernel)
set_option maxRecDepth 20000 in
theorem gX1_countClashes_X1_doClash : GoodIn wsX1_countClashes (wsV RX1 47 RX1 yX1_doClash wsX1_doClash) := goodIn_app (goodIn_of _ (by decide +kernel)) ggX1_countClashes_X1_doClash
theorem dX1_countClashes_0 : decode cX1_countClashes 0 = .ok (.iconst 0, 1) := by decide +kernel
theorem dX1_countClashes_1 : decode cX1_countClashes 1 = .ok (.istore_n 2, 1) := by decide +kernel
theorem dX1_countClashes_2 : decode cX1_countClashes 2 = .ok (.aload_n 0, 1) := by decide +kernel
theorem dX1_countClashes_3 : decode cX1_countClashes 3 = .ok (.iload_n 1, 1) := by decide +kernel
theorem dX1_countClashes_4 : decode cX1_countClashes 4 = .ok (.invokevirtual 44, 3) := by decide +kernel
theorem dX1_countClashes_7 : decode cX1_countClashes 7 = .ok (.istore_n 3, 1) := by decide +kernel
theorem dX1_countClashes_8 : decode cX1_countClashes 8 = .ok (.iload_n 3, 1) := by decide +kernel
theorem dX1_countClashes_9 : decode cX1_countClashes 9 = .ok (.aload_n 0, 1) := by decide +kernel
theorem dX1_countClashes_10 : decode cX1_countClashes 10 = .ok (.iload_n 1, 1) := by decide +kernel
theorem dX1_countClashes_11 : decode cX1_countClashes 11 = .ok (.invokevirtual 28, 3) := by decide +kernel
theorem dX1_countClashes_14 : decode cX1_countClashes 14 = .ok (.if_icmp .ge 41, 3) := by decide +kernel
theorem dX1_countClashes_17 : decode cX1_countClashes 17 = .ok (.aload_n 0, 1) := by decide +kernel
theorem dX1_countClashes_18 : decode cX1_countClashes 18 = .ok (.iload_n 1, 1) := by decide +kernel
theorem dX1_countClashes_19 : decode cX1_countClashes 19 = .ok (.invokevirtual 44, 3) := by decide +kernel
theorem dX1_countClashes_22 : decode cX1_countClashes 22 = .ok (.istore 4, 2) := by decide +kernel
theorem dX1_countClashes_24 : decode cX1_countClashes 24 = .ok (.iload 4, 2) := by decide +kernel
theorem dX1_countClashes_26 : decode cX1_countClashes 26 = .ok (.iload_n 3, 1) := by decide +kernel
theorem dX1_countClashes_27 : decode cX1_countClashes 27 = .ok (.if_icmp .ge 22, 3) := by decide +kernel
theorem dX1_countClashes_30 : decode cX1_countClashes 30 = .ok (.aload_n 0, 1) := by decide +kernel
theorem dX1_countClashes_31 : decode cX1_countClashes 31 = .ok (.iload 4, 2) := by decide +kernel
theorem dX1_countClashes_33 : decode cX1_countClashes 33 = .ok (.iload_n 3, 1) := by decide +kernel
theorem dX1_countClashes_34 : decode cX1_countClashes 34 = .ok (.invokevirtual 47, 3) := by decide +kernel
theorem dX1_countClashes_37 : decode cX1_countClashes 37 = .ok (.ifCond .eq 6, 3) := by decide +kernel
theorem dX1_countClashes_40 : decode cX1_countClashes 40 = .ok (.iinc 2 1, 3) := by decide +kernel
theorem dX1_countClashes_43 : decode cX1_countClashes 43 = .ok (.iinc 4 1, 3) := by decide +kernel
theorem dX1_countClashes_46 : decode cX1_countClashes 46 = .ok (.goto (-22), 3) := by decide +kernel
theorem dX1_countClashes_49 : decode cX1_countClashes 49 = .ok (.iinc 3 1, 3) := by decide +kernel
theorem dX1_countClashes_52 : decode cX1_countClashes 52 = .ok (.goto (-44), 3) := by decide +kernel
theorem dX1_countClashes_55 : decode cX1_countClashes 55 = .ok (.iload_n 2, 1) := by decide +kernel
theorem dX1_countClashes_56 : decode cX1_countClashes 56 = .ok (.ireturn, 1) := by decide +kernel
set_option maxRecDepth 20000 in
theorem ggX1_clashNumbered_X1_startOf : GoodIn wsX1_clashNumbered wsX1_startOf := goodIn_r _ [6] (by decide +kernel) (by decide +kernel)
set_option maxRecDepth 20000 in
theorem gX1_clashNumbered_X1_startOf : GoodIn wsX1_clashNumbered (wsV RX1 44 RX1 yX1_startOf wsX1_startOf) := goodIn_app (goodIn_of _ (by decide +kernel)) ggX1_clashNumbered_X1_startOf
set_option maxRecDepth 20000 in
theorem ggX1_clashNumbered_X1_endOf : GoodIn wsX1_clashNumbered wsX1_endOf := goodIn_r _ [10, 11, 39, 40, 41, 42, 43] (by decide +kernel) (by decide +kernel)
set_option maxRecDepth 20000 in
theorem gX1_clashNumbered_X1_endOf : GoodIn wsX1_clashNumbered (wsV RX1 28 RX1 yX1_endOf wsX1_endOf) := goodIn_app (goodIn_of _ (by decide +kernel)) ggX1_clashNumbered_X1_endOf
set_option maxRecDepth 20000 in
theorem ggX1_clashNumbered_X1_doClash : GoodIn wsX1_clashNumbered wsX1_doClash := goodIn_r _ [15, 16, 17, 18, 19, 20, 21, 22, 23, 24, 25, 26, 27, 28, 29, 30, 31, 5, 32, 33, 34, 35, 36, 37, 38, 39, 40, 41, 42, 43, 44, 45, 46, 47, 48] (by decide +kernel) (by decide +kernel)
set_option maxRecDepth 20000 in
theorem gX1_clashNumbered_X1_doClash : GoodIn wsX1_clashNumbered (wsV RX1 47 RX1 yX1_doClash wsX1_doClash) := goodIn_app (goodIn_of _ (by decide +kernel)) ggX1_clashNumbered_X1_doClash
theorem dX1_clashNumbered_0 : decode cX1_clashNumbered 0 = .ok (.aload_n 0, 1) := by decide +kernel
theorem dX1_clashNumbered_1 : decode cX1_clashNumbered 1 = .ok (.iload_n 1, 1) := by decide +kernel
theorem dX1_clashNumbered_2 : decode cX1_clashNumbered 2 = .ok (.invokevirtual 44, 3) := by decide +kernel
theorem dX1_clashNumbered_5 : decode cX1_clashNumbered 5 = .ok (.istore_n 3, 1) := by decide +kernel
theorem dX1_clashNumbered_6 : decode cX1_clashNumbered 6 = .ok (.iconst 0, 1) := by decide +kernel
theorem dX1_clashNumbered_7 : decode cX1_clashNumbered 7 = .ok (.istore 4, 2) := by decide +kernel
theorem dX1_clashNumbered_9 : decode cX1_clashNumbered 9 = .ok (.iload_n 3, 1) := by decide +kernel
theorem dX1_clashNumbered_10 : decode cX1_clashNumbered 10 = .ok (.istore 5, 2) := by decide +kernel
theorem dX1_clashNumbered_12 : decode cX1_clashNumbered 12 = .ok (.iload 5, 2) := by decide +kernel
theorem dX1_clashNumbered_14 : decode cX1_clashNumbered 14 = .ok (.aload_n 0, 1) := by decide +kernel
theorem dX1_clashNumbered_15 : decode cX1_clashNumbered 15 = .ok (.iload_n 1, 1) := by decide +kernel
theorem dX1_clashNumbered_16 : decode cX1_clashNumbered 16 = .ok (.invokevirtual 28, 3) := by decide +kernel
theorem dX1_clashNumbered_19 : decode cX1_clashNumbered 19 = .ok (.if_icmp .ge 61, 3) := by decide +kernel
theorem dX1_clashNumbered_22 : decode cX1_clashNumbered 22 = .ok (.iload_n 3, 1) := by decide +kernel
theorem dX1_clashNumbered_23 : decode cX1_clashNumbered 23 = .ok (.istore 6, 2) := by decide +kernel
theorem dX1_clashNumbered_25 : decode cX1_clashNumbered 25 = .ok (.iload 6, 2) := by decide +kernel
theorem dX1_clashNumbered_27 : decode cX1_clashNumbered 27 = .ok (.iload 5, 2) := by decide +kernel
theorem dX1_clashNumbered_29 : decode cX1_clashNumbered 29 = .ok (.if_icmp .ge 45, 3) := by decide +kernel
theorem dX1_clashNumbered_32 : decode cX1_clashNumbered 32 = .ok (.aload_n 0, 1) := by decide +kernel
theorem dX1_clashNumbered_33 : decode cX1_clashNumbered 33 = .ok (.iload 6, 2) := by decide +kernel
theorem dX1_clashNumbered_35 : decode cX1_clashNumbered 35 = .ok (.iload 5, 2) := by decide +kernel
theorem dX1_clashNumbered_37 : decode cX1_clashNumbered 37 = .ok (.invokevirtual 47, 3) := by decide +kernel
theorem dX1_clashNumbered_40 : decode cX1_clashNumbered 40 = .ok (.ifCond .ne 6, 3) := by decide +kernel
theorem dX1_clashNumbered_43 : decode cX1_clashNumbered 43 = .ok (.goto 25, 3) := by decide +kernel
theorem dX1_clashNumbered_46 : decode cX1_clashNumbered 46 = .ok (.iload 4, 2) := by decide +kernel
theorem dX1_clashNumbered_48 : decode cX1_clashNumbered 48 = .ok (.iload_n 2, 1) := by decide +kernel
theorem dX1_clashNumbered_49 : decode cX1_clashNumbered 49 = .ok (.if_icmp .ne 16, 3) := by decide +kernel
theorem dX1_clashNumbered_52 : decode cX1_clashNumbered 52 = .ok (.bipush 40, 2) := by decide +kernel
theorem dX1_clashNumbered_54 : decode cX1_clashNumbered 54 = .ok (.iload 6, 2) := by decide +kernel
theorem dX1_clashNumbered_56 : decode cX1_clashNumbered 56 = .ok (.iload_n 3, 1) := by decide +kernel
theorem dX1_clashNumbered_57 : decode cX1_clashNumbered 57 = .ok (.isub, 1) := by decide +kernel
theorem dX1_clashNumbered_58 : decode cX1_clashNumbered 58 = .ok (.imul, 1) := by decide +kernel
theorem dX1_clashNumbered_59 : decode cX1_clashNumbered 59 = .ok (.iload 5, 2) := by decide +kernel
theorem dX1_clashNumbered_61 : decode cX1_clashNumbered 61 = .ok (.iadd, 1) := by decide +kernel
theorem dX1_clashNumbered_62 : decode cX1_clashNumbered 62 = .ok (.iload_n 3, 1) := by decide +kernel
theorem dX1_clashNumbered_63 : decode cX1_clashNumbered 63 = .ok (.isub, 1) := by decide +kernel
theorem dX1_clashNumbered_64 : decode cX1_clashNumbered 64 = .ok (.ireturn, 1) := by decide +kernel
theorem dX1_clashNumbered_65 : decode cX1_clashNumbered 65 = .ok (.iinc 4 1, 3) := by decide +kernel
theorem dX1_clashNumbered_68 : decode cX1_clashNumbered 68 = .ok (.iinc 6 1, 3) := by decide +kernel
theorem dX1_clashNumbered_71 : decode cX1_clashNumbered 71 = .ok (.goto (-46), 3) := by decide +kernel
theorem dX1_clashNumbered_74 : decode cX1_clashNumbered 74 = .ok (.iinc 5 1, 3) := by decide +kernel
theorem dX1_clashNumbered_77 : decode cX1_clashNumbered 77 = .ok (.goto (-65), 3) := by decide +kernel
theorem dX1_clashNumbered_80 : decode cX1_clashNumbered 80 = .ok (.ldc 50, 2) := by decide +kernel
theorem dX1_clashNumbered_82 : decode cX1_clashNumbered 82 = .ok (.ireturn, 1) := by decide +kernel
set_option maxRecDepth 20000 in
theorem ggX1_countChokes_X1_startOf : GoodIn wsX1_countChokes wsX1_startOf := goodIn_r _ [8] (by decide +kernel) (by decide +kernel)
set_option maxRecDepth 20000 in
theorem gX1_countChokes_X1_startOf : GoodIn wsX1_countChokes (wsV RX1 44 RX1 yX1_startOf wsX1_startOf) := goodIn_app (goodIn_of _ (by decide +kernel)) ggX1_countChokes_X1_startOf
set_option maxRecDepth 20000 in
theorem ggX1_countChokes_X1_endOf : GoodIn wsX1_countChokes wsX1_endOf := goodIn_r _ [12, 13, 30, 31, 32, 33, 34] (by decide +kernel) (by decide +kernel)
set_option maxRecDepth 20000 in
theorem gX1_countChokes_X1_endOf : GoodIn wsX1_countChokes (wsV RX1 28 RX1 yX1_endOf wsX1_endOf) := goodIn_app (goodIn_of _ (by decide +kernel)) ggX1_countChokes_X1_endOf
set_option maxRecDepth 20000 in
theorem ggX1_countChokes_X1_tickBehind : GoodIn wsX1_countChokes wsX1_tickBehind := goodIn_r _ [17, 1, 18, 30, 31, 32, 33, 34] (by decide +kernel) (by decide +kernel)
set_option maxRecDepth 20000 in
theorem gX1_countChokes_X1_tickBehind : GoodIn wsX1_countChokes (wsV RX1 32 RX1 yX1_tickBehind wsX1_tickBehind) := goodIn_app (goodIn_of _ (by decide +kernel)) ggX1_countChokes_X1_tickBehind
set_option maxRecDepth 20000 in
theorem ggX1_countChokes_X0_doShare : GoodIn wsX1_countChokes wsX0_doShare := goodIn_r _ [23, 24, 25, 26, 27, 22, 28, 29, 35, 36, 37, 38, 39] (by decide +kernel) (by decide +kernel)
set_option maxRecDepth 20000 in
theorem gX1_countChokes_X0_doShare : GoodIn wsX1_countChokes (wsV RX1 35 RX0 yX0_doShare wsX0_doShare) := goodIn_app (goodIn_of _ (by decide +kernel)) ggX1_countChokes_X0_doShare
theorem dX1_countChokes_0 : decode cX1_countChokes 0 = .ok (.iconst 0, 1) := by decide +kernel
theorem dX1_countChokes_1 : decode cX1_countChokes 1 = .ok (.istore_n 3, 1) := by decide +kernel
theorem dX1_countChokes_2 : decode cX1_countChokes 2 = .ok (.aload_n 0, 1) := by decide +kernel
theorem dX1_countChokes_3 : decode cX1_countChokes 3 = .ok (.iload_n 1, 1) := by decide +kernel
theorem dX1_countChokes_4 : decode cX1_countChokes 4 = .ok (.invokevirtual 44, 3) := by decide +kernel
theorem dX1_countChokes_7 : decode cX1_countChokes 7 = .ok (.istore 4, 2) := by decide +kernel
theorem dX1_countChokes_9 : decode cX1_countChokes 9 = .ok (.iload 4, 2) := by decide +kernel
theorem dX1_countChokes_11 : decode cX1_countChokes 11 = .ok (.aload_n 0, 1) := by decide +kernel
theorem dX1_countChokes_12 : decode cX1_countChokes 12 = .ok (.iload_n 1, 1) := by decide +kernel
theorem dX1_countChokes_13 : decode cX1_countChokes 13 = .ok (.invokevirtual 28, 3) := by decide +kernel
theorem dX1_countChokes_16 : decode cX1_countChokes 16 = .ok (.if_icmp .ge 84, 3) := by decide +kernel
theorem dX1_countChokes_19 : decode cX1_countChokes 19 = .ok (.aload_n 0, 1) := by decide +kernel
theorem dX1_countChokes_20 : decode cX1_countChokes 20 = .ok (.iload_n 1, 1) := by decide +kernel
theorem dX1_countChokes_21 : decode cX1_countChokes 21 = .ok (.invokevirtual 44, 3) := by decide +kernel
theorem dX1_countChokes_24 : decode cX1_countChokes 24 = .ok (.istore 5, 2) := by decide +kernel
theorem dX1_countChokes_26 : decode cX1_countChokes 26 = .ok (.iload 5, 2) := by decide +kernel
theorem dX1_countChokes_28 : decode cX1_countChokes 28 = .ok (.iload 4, 2) := by decide +kernel
theorem dX1_countChokes_30 : decode cX1_countChokes 30 = .ok (.if_icmp .ge 64, 3) := by decide +kernel
theorem dX1_countChokes_33 : decode cX1_countChokes 33 = .ok (.aload_n 0, 1) := by decide +kernel
theorem dX1_countChokes_34 : decode cX1_countChokes 34 = .ok (.getfield 15, 3) := by decide +kernel
theorem dX1_countChokes_37 : decode cX1_countChokes 37 = .ok (.iload 4, 2) := by decide +kernel
theorem dX1_countChokes_39 : decode cX1_countChokes 39 = .ok (.iaload, 1) := by decide +kernel
theorem dX1_countChokes_40 : decode cX1_countChokes 40 = .ok (.aload_n 0, 1) := by decide +kernel
theorem dX1_countChokes_41 : decode cX1_countChokes 41 = .ok (.iload 5, 2) := by decide +kernel
theorem dX1_countChokes_43 : decode cX1_countChokes 43 = .ok (.invokevirtual 32, 3) := by decide +kernel
theorem dX1_countChokes_46 : decode cX1_countChokes 46 = .ok (.isub, 1) := by decide +kernel
theorem dX1_countChokes_47 : decode cX1_countChokes 47 = .ok (.istore 6, 2) := by decide +kernel
theorem dX1_countChokes_49 : decode cX1_countChokes 49 = .ok (.iconst 0, 1) := by decide +kernel
theorem dX1_countChokes_50 : decode cX1_countChokes 50 = .ok (.iload 6, 2) := by decide +kernel
theorem dX1_countChokes_52 : decode cX1_countChokes 52 = .ok (.if_icmp .gt 36, 3) := by decide +kernel
theorem dX1_countChokes_55 : decode cX1_countChokes 55 = .ok (.iload 6, 2) := by decide +kernel
theorem dX1_countChokes_57 : decode cX1_countChokes 57 = .ok (.iload_n 2, 1) := by decide +kernel
theorem dX1_countChokes_58 : decode cX1_countChokes 58 = .ok (.if_icmp .ge 30, 3) := by decide +kernel
theorem dX1_countChokes_61 : decode cX1_countChokes 61 = .ok (.aload_n 0, 1) := by decide +kernel
theorem dX1_countChokes_62 : decode cX1_countChokes 62 = .ok (.getfield 24, 3) := by decide +kernel
theorem dX1_countChokes_65 : decode cX1_countChokes 65 = .ok (.aload_n 0, 1) := by decide +kernel
theorem dX1_countChokes_66 : decode cX1_countChokes 66 = .ok (.getfield 9, 3) := by decide +kernel
theorem dX1_countChokes_69 : decode cX1_countChokes 69 = .ok (.iload 5, 2) := by decide +kernel
theorem dX1_countChokes_71 : decode cX1_countChokes 71 = .ok (.iaload, 1) := by decide +kernel
theorem dX1_countChokes_72 : decode cX1_countChokes 72 = .ok (.aload_n 0, 1) := by decide +kernel
theorem dX1_countChokes_73 : decode cX1_countChokes 73 = .ok (.getfield 9, 3) := by decide +kernel
theorem dX1_countChokes_76 : decode cX1_countChokes 76 = .ok (.iload 4, 2) := by decide +kernel
theorem dX1_countChokes_78 : decode cX1_countChokes 78 = .ok (.iaload, 1) := by decide +kernel
theorem dX1_countChokes_79 : decode cX1_countChokes 79 = .ok (.invokevirtual 35, 3) := by decide +kernel
theorem dX1_countChokes_82 : decode cX1_countChokes 82 = .ok (.ifCond .eq 6, 3) := by decide +kernel
theorem dX1_countChokes_85 : decode cX1_countChokes 85 = .ok (.iinc 3 1, 3) := by decide +kernel
theorem dX1_countChokes_88 : decode cX1_countChokes 88 = .ok (.iinc 5 1, 3) := by decide +kernel
theorem dX1_countChokes_91 : decode cX1_countChokes 91 = .ok (.goto (-65), 3) := by decide +kernel
theorem dX1_countChokes_94 : decode cX1_countChokes 94 = .ok (.iinc 4 1, 3) := by decide +kernel
theorem dX1_countChokes_97 : decode cX1_countChokes 97 = .ok (.goto (-88), 3) := by decide +kernel
theorem dX1_countChokes_100 : decode cX1_countChokes 100 = .ok (.iload_n 3, 1) := by decide +kernel
theorem dX1_countChokes_101 : decode cX1_countChokes 101 = .ok (.ireturn, 1) := by decide +kernel
set_option maxRecDepth 20000 in
theorem ggX1_countTrills_X1_startOf : GoodIn wsX1_countTrills wsX1_startOf := goodIn_r _ [7] (by decide +kernel) (by decide +kernel)
set_option maxRecDepth 20000 in
theorem gX1_countTrills_X1_startOf : GoodIn wsX1_countTrills (wsV RX1 44 RX1 yX1_startOf wsX1_startOf) := goodIn_app (goodIn_of _ (by decide +kernel)) ggX1_countTrills_X1_startOf
set_option maxRecDepth 20000 in
theorem ggX1_countTrills_X1_endOf : GoodIn wsX1_countTrills wsX1_endOf := goodIn_r _ [11, 12, 38, 39, 40, 41, 42] (by decide +kernel) (by decide +kernel)
set_option maxRecDepth 20000 in
theorem gX1_countTrills_X1_endOf : GoodIn wsX1_countTrills (wsV RX1 28 RX1 yX1_endOf wsX1_endOf) := goodIn_app (goodIn_of _ (by decide +kernel)) ggX1_countTrills_X1_endOf
set_option maxRecDepth 20000 in
theorem ggX1_countTrills_X1_lastOfTrill : GoodIn wsX1_countTrills wsX1_lastOfTrill := goodIn_r _ [16, 17, 18, 19, 6, 20, 21, 2, 22, 23, 24, 25, 26, 38, 39, 40, 41, 42] (by decide +kernel) (by decide +kernel)
set_option maxRecDepth 20000 in
theorem gX1_countTrills_X1_lastOfTrill : GoodIn wsX1_countTrills (wsV RX1 51 RX1 yX1_lastOfTrill wsX1_lastOfTrill) := goodIn_app (goodIn_of _ (by decide +kernel)) ggX1_countTrills_X1_lastOfTrill
set_option maxRecDepth 20000 in
theorem ggX1_countTrills_X0_doShare : GoodIn wsX1_countTrills wsX0_doShare := goodIn_r _ [31, 32, 33, 34, 35, 30, 36, 37, 43, 44, 45, 46, 47] (by decide +kernel) (by decide +kernel)
set_option maxRecDepth 20000 in
theorem gX1_countTrills_X0_doShare : GoodIn wsX1_countTrills (wsV RX1 35 RX0 yX0_doShare wsX0_doShare) := goodIn_app (goodIn_of _ (by decide +kernel)) ggX1_countTrills_X0_doShare
theorem dX1_countTrills_0 : decode cX1_countTrills 0 = .ok (.iconst 0, 1) := by decide +kernel
theorem dX1_countTrills_1 : decode cX1_countTrills 1 = .ok (.istore_n 3, 1) := by decide +kernel
theorem dX1_countTrills_2 : decode cX1_countTrills 2 = .ok (.aload_n 0, 1) := by decide +kernel
theorem dX1_countTrills_3 : decode cX1_countTrills 3 = .ok (.iload_n 1, 1) := by decide +kernel
theorem dX1_countTrills_4 : decode cX1_countTrills 4 = .ok (.invokevirtual 44, 3) := by decide +kernel
theorem dX1_countTrills_7 : decode cX1_countTrills 7 = .ok (.istore 4, 2) := by decide +kernel
theorem dX1_countTrills_9 : decode cX1_countTrills 9 = .ok (.iload 4, 2) := by decide +kernel
theorem dX1_countTrills_11 : decode cX1_countTrills 11 = .ok (.aload_n 0, 1) := by decide +kernel
theorem dX1_countTrills_12 : decode cX1_countTrills 12 = .ok (.iload_n 1, 1) := by decide +kernel
theorem dX1_countTrills_13 : decode cX1_countTrills 13 = .ok (.invokevirtual 28, 3) := by decide +kernel
theorem dX1_countTrills_16 : decode cX1_countTrills 16 = .ok (.if_icmp .ge 75, 3) := by decide +kernel
theorem dX1_countTrills_19 : decode cX1_countTrills 19 = .ok (.aload_n 0, 1) := by decide +kernel
theorem dX1_countTrills_20 : decode cX1_countTrills 20 = .ok (.iload 4, 2) := by decide +kernel
theorem dX1_countTrills_22 : decode cX1_countTrills 22 = .ok (.aload_n 0, 1) := by decide +kernel
theorem dX1_countTrills_23 : decode cX1_countTrills 23 = .ok (.iload_n 1, 1) := by decide +kernel
theorem dX1_countTrills_24 : decode cX1_countTrills 24 = .ok (.invokevirtual 28, 3) := by decide +kernel
theorem dX1_countTrills_27 : decode cX1_countTrills 27 = .ok (.invokevirtual 51, 3) := by decide +kernel
theorem dX1_countTrills_30 : decode cX1_countTrills 30 = .ok (.istore 5, 2) := by decide +kernel
theorem dX1_countTrills_32 : decode cX1_countTrills 32 = .ok (.iload 5, 2) := by decide +kernel
theorem dX1_countTrills_34 : decode cX1_countTrills 34 = .ok (.iload 4, 2) := by decide +kernel
theorem dX1_countTrills_36 : decode cX1_countTrills 36 = .ok (.isub, 1) := by decide +kernel
theorem dX1_countTrills_37 : decode cX1_countTrills 37 = .ok (.iconst 1, 1) := by decide +kernel
theorem dX1_countTrills_38 : decode cX1_countTrills 38 = .ok (.iadd, 1) := by decide +kernel
theorem dX1_countTrills_39 : decode cX1_countTrills 39 = .ok (.iconst 4, 1) := by decide +kernel
theorem dX1_countTrills_40 : decode cX1_countTrills 40 = .ok (.if_icmp .ge 6, 3) := by decide +kernel
theorem dX1_countTrills_43 : decode cX1_countTrills 43 = .ok (.goto 42, 3) := by decide +kernel
theorem dX1_countTrills_46 : decode cX1_countTrills 46 = .ok (.iload_n 2, 1) := by decide +kernel
theorem dX1_countTrills_47 : decode cX1_countTrills 47 = .ok (.ifCond .eq 29, 3) := by decide +kernel
theorem dX1_countTrills_50 : decode cX1_countTrills 50 = .ok (.aload_n 0, 1) := by decide +kernel
theorem dX1_countTrills_51 : decode cX1_countTrills 51 = .ok (.getfield 24, 3) := by decide +kernel
theorem dX1_countTrills_54 : decode cX1_countTrills 54 = .ok (.aload_n 0, 1) := by decide +kernel
theorem dX1_countTrills_55 : decode cX1_countTrills 55 = .ok (.getfield 9, 3) := by decide +kernel
theorem dX1_countTrills_58 : decode cX1_countTrills 58 = .ok (.iload 4, 2) := by decide +kernel
theorem dX1_countTrills_60 : decode cX1_countTrills 60 = .ok (.iaload, 1) := by decide +kernel
theorem dX1_countTrills_61 : decode cX1_countTrills 61 = .ok (.aload_n 0, 1) := by decide +kernel
theorem dX1_countTrills_62 : decode cX1_countTrills 62 = .ok (.getfield 9, 3) := by decide +kernel
theorem dX1_countTrills_65 : decode cX1_countTrills 65 = .ok (.iload 4, 2) := by decide +kernel
theorem dX1_countTrills_67 : decode cX1_countTrills 67 = .ok (.iconst 1, 1) := by decide +kernel
theorem dX1_countTrills_68 : decode cX1_countTrills 68 = .ok (.iadd, 1) := by decide +kernel
theorem dX1_countTrills_69 : decode cX1_countTrills 69 = .ok (.iaload, 1) := by decide +kernel
theorem dX1_countTrills_70 : decode cX1_countTrills 70 = .ok (.invokevirtual 35, 3) := by decide +kernel
theorem dX1_countTrills_73 : decode cX1_countTrills 73 = .ok (.ifCond .eq 6, 3) := by decide +kernel
theorem dX1_countTrills_76 : decode cX1_countTrills 76 = .ok (.iinc 3 1, 3) := by decide +kernel
theorem dX1_countTrills_79 : decode cX1_countTrills 79 = .ok (.iload 5, 2) := by decide +kernel
theorem dX1_countTrills_81 : decode cX1_countTrills 81 = .ok (.iconst 1, 1) := by decide +kernel
theorem dX1_countTrills_82 : decode cX1_countTrills 82 = .ok (.isub, 1) := by decide +kernel
theorem dX1_countTrills_83 : decode cX1_countTrills 83 = .ok (.istore 4, 2) := by decide +kernel
theorem dX1_countTrills_85 : decode cX1_countTrills 85 = .ok (.iinc 4 1, 3) := by decide +kernel
theorem dX1_countTrills_88 : decode cX1_countTrills 88 = .ok (.goto (-79), 3) := by decide +kernel
theorem dX1_countTrills_91 : decode cX1_countTrills 91 = .ok (.iload_n 3, 1) := by decide +kernel
theorem dX1_countTrills_92 : decode cX1_countTrills 92 = .ok (.ireturn, 1) := by decide +kernel
set_option maxRecDepth 20000 in
theorem ggX1_lastOfTrill_X1_goesOn : GoodIn wsX1_lastOfTrill wsX1_goesOn := goodIn_r _ [5, 6, 7, 8, 9, 10, 4, 11, 12, 13, 14, 15, 16, 17] (by decide +kernel) (by decide +kernel)
set_option maxRecDepth 20000 in
theorem gX1_lastOfTrill_X1_goesOn : GoodIn wsX1_lastOfTrill (wsV RX1 55 RX1 yX1_goesOn wsX1_goesOn) := goodIn_app (goodIn_of _ (by decide +kernel)) ggX1_lastOfTrill_X1_goesOn
theorem dX1_lastOfTrill_0 : decode cX1_lastOfTrill 0 = .ok (.iload_n 1, 1) := by decide +kernel
theorem dX1_lastOfTrill_1 : decode cX1_lastOfTrill 1 = .ok (.istore_n 3, 1) := by decide +kernel
theorem dX1_lastOfTrill_2 : decode cX1_lastOfTrill 2 = .ok (.iload_n 1, 1) := by decide +kernel
theorem dX1_lastOfTrill_3 : decode cX1_lastOfTrill 3 = .ok (.iconst 1, 1) := by decide +kernel
theorem dX1_lastOfTrill_4 : decode cX1_lastOfTrill 4 = .ok (.iadd, 1) := by decide +kernel
theorem dX1_lastOfTrill_5 : decode cX1_lastOfTrill 5 = .ok (.istore 4, 2) := by decide +kernel
theorem dX1_lastOfTrill_7 : decode cX1_lastOfTrill 7 = .ok (.iload 4, 2) := by decide +kernel
theorem dX1_lastOfTrill_9 : decode cX1_lastOfTrill 9 = .ok (.iload_n 2, 1) := by decide +kernel
theorem dX1_lastOfTrill_10 : decode cX1_lastOfTrill 10 = .ok (.if_icmp .ge 25, 3) := by decide +kernel
theorem dX1_lastOfTrill_13 : decode cX1_lastOfTrill 13 = .ok (.aload_n 0, 1) := by decide +kernel
theorem dX1_lastOfTrill_14 : decode cX1_lastOfTrill 14 = .ok (.iload_n 1, 1) := by decide +kernel
theorem dX1_lastOfTrill_15 : decode cX1_lastOfTrill 15 = .ok (.iload 4, 2) := by decide +kernel
theorem dX1_lastOfTrill_17 : decode cX1_lastOfTrill 17 = .ok (.invokevirtual 55, 3) := by decide +kernel
theorem dX1_lastOfTrill_20 : decode cX1_lastOfTrill 20 = .ok (.ifCond .ne 6, 3) := by decide +kernel
theorem dX1_lastOfTrill_23 : decode cX1_lastOfTrill 23 = .ok (.goto 12, 3) := by decide +kernel
theorem dX1_lastOfTrill_26 : decode cX1_lastOfTrill 26 = .ok (.iload 4, 2) := by decide +kernel
theorem dX1_lastOfTrill_28 : decode cX1_lastOfTrill 28 = .ok (.istore_n 3, 1) := by decide +kernel
theorem dX1_lastOfTrill_29 : decode cX1_lastOfTrill 29 = .ok (.iinc 4 1, 3) := by decide +kernel
theorem dX1_lastOfTrill_32 : decode cX1_lastOfTrill 32 = .ok (.goto (-25), 3) := by decide +kernel
theorem dX1_lastOfTrill_35 : decode cX1_lastOfTrill 35 = .ok (.iload_n 3, 1) := by decide +kernel
theorem dX1_lastOfTrill_36 : decode cX1_lastOfTrill 36 = .ok (.ireturn, 1) := by decide +kernel
set_option maxRecDepth 20000 in
theorem ggX1_goesOn_X1_tickBehind : GoodIn wsX1_goesOn wsX1_tickBehind := goodIn_r _ [7, 1, 8, 9, 10, 11, 12, 13] (by decide +kernel) (by decide +kernel)
set_option maxRecDepth 20000 in
theorem gX1_goesOn_X1_tickBehind : GoodIn wsX1_goesOn (wsV RX1 32 RX1 yX1_tickBehind wsX1_tickBehind) := goodIn_app (goodIn_of _ (by decide +kernel)) ggX1_goesOn_X1_tickBehind
theorem dX1_goesOn_0 : decode cX1_goesOn 0 = .ok (.aload_n 0, 1) := by decide +kernel
theorem dX1_goesOn_1 : decode cX1_goesOn 1 = .ok (.getfield 15, 3) := by decide +kernel
theorem dX1_goesOn_4 : decode cX1_goesOn 4 = .ok (.iload_n 2, 1) := by decide +kernel
theorem dX1_goesOn_5 : decode cX1_goesOn 5 = .ok (.iaload, 1) := by decide +kernel
theorem dX1_goesOn_6 : decode cX1_goesOn 6 = .ok (.aload_n 0, 1) := by decide +kernel
theorem dX1_goesOn_7 : decode cX1_goesOn 7 = .ok (.iload_n 2, 1) := by decide +kernel
theorem dX1_goesOn_8 : decode cX1_goesOn 8 = .ok (.iconst 1, 1) := by decide +kernel
theorem dX1_goesOn_9 : decode cX1_goesOn 9 = .ok (.isub, 1) := by decide +kernel
theorem dX1_goesOn_10 : decode cX1_goesOn 10 = .ok (.invokevirtual 32, 3) := by decide +kernel
theorem dX1_goesOn_13 : decode cX1_goesOn 13 = .ok (.if_icmp .le 5, 3) := by decide +kernel
theorem dX1_goesOn_16 : decode cX1_goesOn 16 = .ok (.iconst 0, 1) := by decide +kernel
theorem dX1_goesOn_17 : decode cX1_goesOn 17 = .ok (.ireturn, 1) := by decide +kernel
theorem dX1_goesOn_18 : decode cX1_goesOn 18 = .ok (.iload_n 2, 1) := by decide +kernel
theorem dX1_goesOn_19 : decode cX1_goesOn 19 = .ok (.iload_n 1, 1) := by decide +kernel
theorem dX1_goesOn_20 : decode cX1_goesOn 20 = .ok (.iconst 1, 1) := by decide +kernel
theorem dX1_goesOn_21 : decode cX1_goesOn 21 = .ok (.iadd, 1) := by decide +kernel
theorem dX1_goesOn_22 : decode cX1_goesOn 22 = .ok (.if_icmp .ne 24, 3) := by decide +kernel
theorem dX1_goesOn_25 : decode cX1_goesOn 25 = .ok (.aload_n 0, 1) := by decide +kernel
theorem dX1_goesOn_26 : decode cX1_goesOn 26 = .ok (.getfield 9, 3) := by decide +kernel
theorem dX1_goesOn_29 : decode cX1_goesOn 29 = .ok (.iload_n 2, 1) := by decide +kernel
theorem dX1_goesOn_30 : decode cX1_goesOn 30 = .ok (.iaload, 1) := by decide +kernel
theorem dX1_goesOn_31 : decode cX1_goesOn 31 = .ok (.aload_n 0, 1) := by decide +kernel
theorem dX1_goesOn_32 : decode cX1_goesOn 32 = .ok (.getfield 9, 3) := by decide +kernel
theorem dX1_goesOn_35 : decode cX1_goesOn 35 = .ok (.iload_n 1, 1) := by decide +kernel
theorem dX1_goesOn_36 : decode cX1_goesOn 36 = .ok (.iaload, 1) := by decide +kernel
theorem dX1_goesOn_37 : decode cX1_goesOn 37 = .ok (.if_icmp .eq 7, 3) := by decide +kernel
theorem dX1_goesOn_40 : decode cX1_goesOn 40 = .ok (.iconst 1, 1) := by decide +kernel
theorem dX1_goesOn_41 : decode cX1_goesOn 41 = .ok (.goto 4, 3) := by decide +kernel
theorem dX1_goesOn_44 : decode cX1_goesOn 44 = .ok (.iconst 0, 1) := by decide +kernel
theorem dX1_goesOn_45 : decode cX1_goesOn 45 = .ok (.ireturn, 1) := by decide +kernel
theorem dX1_goesOn_46 : decode cX1_goesOn 46 = .ok (.aload_n 0, 1) := by decide +kernel
theorem dX1_goesOn_47 : decode cX1_goesOn 47 = .ok (.getfield 9, 3) := by decide +kernel
theorem dX1_goesOn_50 : decode cX1_goesOn 50 = .ok (.iload_n 2, 1) := by decide +kernel
theorem dX1_goesOn_51 : decode cX1_goesOn 51 = .ok (.iaload, 1) := by decide +kernel
theorem dX1_goesOn_52 : decode cX1_goesOn 52 = .ok (.aload_n 0, 1) := by decide +kernel
theorem dX1_goesOn_53 : decode cX1_goesOn 53 = .ok (.getfield 9, 3) := by decide +kernel
theorem dX1_goesOn_56 : decode cX1_goesOn 56 = .ok (.iload_n 2, 1) := by decide +kernel
theorem dX1_goesOn_57 : decode cX1_goesOn 57 = .ok (.iconst 2, 1) := by decide +kernel
theorem dX1_goesOn_58 : decode cX1_goesOn 58 = .ok (.isub, 1) := by decide +kernel
theorem dX1_goesOn_59 : decode cX1_goesOn 59 = .ok (.iaload, 1) := by decide +kernel
theorem dX1_goesOn_60 : decode cX1_goesOn 60 = .ok (.if_icmp .ne 7, 3) := by decide +kernel
theorem dX1_goesOn_63 : decode cX1_goesOn 63 = .ok (.iconst 1, 1) := by decide +kernel
theorem dX1_goesOn_64 : decode cX1_goesOn 64 = .ok (.goto 4, 3) := by decide +kernel
theorem dX1_goesOn_67 : decode cX1_goesOn 67 = .ok (.iconst 0, 1) := by decide +kernel
theorem dX1_goesOn_68 : decode cX1_goesOn 68 = .ok (.ireturn, 1) := by decide +kernel
set_option maxRecDepth 20000 in
theorem ggX1_keyHeard_X1_startOf : GoodIn wsX1_keyHeard wsX1_startOf := goodIn_r _ [8] (by decide +kernel) (by decide +kernel)
set_option maxRecDepth 20000 in
theorem gX1_keyHeard_X1_startOf : GoodIn wsX1_keyHeard (wsV RX1 44 RX1 yX1_startOf wsX1_startOf) := goodIn_app (goodIn_of _ (by decide +kernel)) ggX1_keyHeard_X1_startOf
set_option maxRecDepth 20000 in
theorem ggX1_keyHeard_X1_endOf : GoodIn wsX1_keyHeard wsX1_endOf := goodIn_r _ [12, 13, 45, 46, 47, 48, 49] (by decide +kernel) (by decide +kernel)
set_option maxRecDepth 20000 in
theorem gX1_keyHeard_X1_endOf : GoodIn wsX1_keyHeard (wsV RX1 28 RX1 yX1_endOf wsX1_endOf) := goodIn_app (goodIn_of _ (by decide +kernel)) ggX1_keyHeard_X1_endOf
set_option maxRecDepth 20000 in
theorem ggX1_keyHeard_X0_strikes : GoodIn wsX1_keyHeard wsX0_strikes := goodIn_r _ [18, 19, 20, 21, 22, 17, 23, 24, 50, 51, 52, 53, 54] (by decide +kernel) (by decide +kernel)
set_option maxRecDepth 20000 in
theorem gX1_keyHeard_X0_strikes : GoodIn wsX1_keyHeard (wsV RX1 58 RX0 yX0_strikes wsX0_strikes) := goodIn_app (goodIn_of _ (by decide +kernel)) ggX1_keyHeard_X0_strikes
set_option maxRecDepth 20000 in
theorem ggX1_keyHeard_X1_soundsAt : GoodIn wsX1_keyHeard wsX1_soundsAt := goodIn_r _ [28, 29, 30, 31, 32, 7, 33, 34, 45, 46, 47, 48, 49] (by decide +kernel) (by decide +kernel)
set_option maxRecDepth 20000 in
theorem gX1_keyHeard_X1_soundsAt : GoodIn wsX1_keyHeard (wsV RX1 61 RX1 yX1_soundsAt wsX1_soundsAt) := goodIn_app (goodIn_of _ (by decide +kernel)) ggX1_keyHeard_X1_soundsAt
set_option maxRecDepth 20000 in
theorem ggX1_keyHeard_X0_stopsNearer : GoodIn wsX1_keyHeard wsX0_stopsNearer := goodIn_r _ [38, 39, 40, 41, 17, 42, 43, 44, 50, 51, 52, 53, 54] (by decide +kernel) (by decide +kernel)
set_option maxRecDepth 20000 in
theorem gX1_keyHeard_X0_stopsNearer : GoodIn wsX1_keyHeard (wsV RX1 64 RX0 yX0_stopsNearer wsX0_stopsNearer) := goodIn_app (goodIn_of _ (by decide +kernel)) ggX1_keyHeard_X0_stopsNearer
theorem dX1_keyHeard_0 : decode cX1_keyHeard 0 = .ok (.iconst (-1), 1) := by decide +kernel
theorem dX1_keyHeard_1 : decode cX1_keyHeard 1 = .ok (.istore 4, 2) := by decide +kernel
theorem dX1_keyHeard_3 : decode cX1_keyHeard 3 = .ok (.aload_n 0, 1) := by decide +kernel
theorem dX1_keyHeard_4 : decode cX1_keyHeard 4 = .ok (.iload_n 1, 1) := by decide +kernel
theorem dX1_keyHeard_5 : decode cX1_keyHeard 5 = .ok (.invokevirtual 44, 3) := by decide +kernel
theorem dX1_keyHeard_8 : decode cX1_keyHeard 8 = .ok (.istore 5, 2) := by decide +kernel
theorem dX1_keyHeard_10 : decode cX1_keyHeard 10 = .ok (.iload 5, 2) := by decide +kernel
theorem dX1_keyHeard_12 : decode cX1_keyHeard 12 = .ok (.aload_n 0, 1) := by decide +kernel
theorem dX1_keyHeard_13 : decode cX1_keyHeard 13 = .ok (.iload_n 1, 1) := by decide +kernel
theorem dX1_keyHeard_14 : decode cX1_keyHeard 14 = .ok (.invokevirtual 28, 3) := by decide +kernel
theorem dX1_keyHeard_17 : decode cX1_keyHeard 17 = .ok (.if_icmp .ge 68, 3) := by decide +kernel
theorem dX1_keyHeard_20 : decode cX1_keyHeard 20 = .ok (.aload_n 0, 1) := by decide +kernel
theorem dX1_keyHeard_21 : decode cX1_keyHeard 21 = .ok (.getfield 9, 3) := by decide +kernel
theorem dX1_keyHeard_24 : decode cX1_keyHeard 24 = .ok (.iload 5, 2) := by decide +kernel
theorem dX1_keyHeard_26 : decode cX1_keyHeard 26 = .ok (.iaload, 1) := by decide +kernel
theorem dX1_keyHeard_27 : decode cX1_keyHeard 27 = .ok (.istore 6, 2) := by decide +kernel
theorem dX1_keyHeard_29 : decode cX1_keyHeard 29 = .ok (.aload_n 0, 1) := by decide +kernel
theorem dX1_keyHeard_30 : decode cX1_keyHeard 30 = .ok (.getfield 24, 3) := by decide +kernel
theorem dX1_keyHeard_33 : decode cX1_keyHeard 33 = .ok (.iload 6, 2) := by decide +kernel
theorem dX1_keyHeard_35 : decode cX1_keyHeard 35 = .ok (.iload_n 2, 1) := by decide +kernel
theorem dX1_keyHeard_36 : decode cX1_keyHeard 36 = .ok (.invokevirtual 58, 3) := by decide +kernel
theorem dX1_keyHeard_39 : decode cX1_keyHeard 39 = .ok (.ifCond .eq 40, 3) := by decide +kernel
theorem dX1_keyHeard_42 : decode cX1_keyHeard 42 = .ok (.aload_n 0, 1) := by decide +kernel
theorem dX1_keyHeard_43 : decode cX1_keyHeard 43 = .ok (.iload 5, 2) := by decide +kernel
theorem dX1_keyHeard_45 : decode cX1_keyHeard 45 = .ok (.iload_n 3, 1) := by decide +kernel
theorem dX1_keyHeard_46 : decode cX1_keyHeard 46 = .ok (.invokevirtual 61, 3) := by decide +kernel
theorem dX1_keyHeard_49 : decode cX1_keyHeard 49 = .ok (.ifCond .ne 6, 3) := by decide +kernel
theorem dX1_keyHeard_52 : decode cX1_keyHeard 52 = .ok (.goto 27, 3) := by decide +kernel
theorem dX1_keyHeard_55 : decode cX1_keyHeard 55 = .ok (.iload 4, 2) := by decide +kernel
theorem dX1_keyHeard_57 : decode cX1_keyHeard 57 = .ok (.iconst (-1), 1) := by decide +kernel
theorem dX1_keyHeard_58 : decode cX1_keyHeard 58 = .ok (.if_icmp .eq 17, 3) := by decide +kernel
theorem dX1_keyHeard_61 : decode cX1_keyHeard 61 = .ok (.aload_n 0, 1) := by decide +kernel
theorem dX1_keyHeard_62 : decode cX1_keyHeard 62 = .ok (.getfield 24, 3) := by decide +kernel
theorem dX1_keyHeard_65 : decode cX1_keyHeard 65 = .ok (.iload 6, 2) := by decide +kernel
theorem dX1_keyHeard_67 : decode cX1_keyHeard 67 = .ok (.iload 4, 2) := by decide +kernel
theorem dX1_keyHeard_69 : decode cX1_keyHeard 69 = .ok (.invokevirtual 64, 3) := by decide +kernel
theorem dX1_keyHeard_72 : decode cX1_keyHeard 72 = .ok (.ifCond .eq 7, 3) := by decide +kernel
theorem dX1_keyHeard_75 : decode cX1_keyHeard 75 = .ok (.iload 6, 2) := by decide +kernel
theorem dX1_keyHeard_77 : decode cX1_keyHeard 77 = .ok (.istore 4, 2) := by decide +kernel
theorem dX1_keyHeard_79 : decode cX1_keyHeard 79 = .ok (.iinc 5 1, 3) := by decide +kernel
theorem dX1_keyHeard_82 : decode cX1_keyHeard 82 = .ok (.goto (-72), 3) := by decide +kernel
theorem dX1_keyHeard_85 : decode cX1_keyHeard 85 = .ok (.iload 4, 2) := by decide +kernel
theorem dX1_keyHeard_87 : decode cX1_keyHeard 87 = .ok (.iconst (-1), 1) := by decide +kernel
theorem dX1_keyHeard_88 : decode cX1_keyHeard 88 = .ok (.if_icmp .ne 8, 3) := by decide +kernel
theorem dX1_keyHeard_91 : decode cX1_keyHeard 91 = .ok (.ldc 50, 2) := by decide +kernel
theorem dX1_keyHeard_93 : decode cX1_keyHeard 93 = .ok (.goto 5, 3) := by decide +kernel
theorem dX1_keyHeard_96 : decode cX1_keyHeard 96 = .ok (.iload 4, 2) := by decide +kernel
theorem dX1_keyHeard_98 : decode cX1_keyHeard 98 = .ok (.ireturn, 1) := by decide +kernel
set_option maxRecDepth 20000 in
theorem ggX1_ticksLost_X1_startOf : GoodIn wsX1_ticksLost wsX1_startOf := goodIn_r _ [13] (by decide +kernel) (by decide +kernel)
set_option maxRecDepth 20000 in
theorem gX1_ticksLost_X1_startOf : GoodIn wsX1_ticksLost (wsV RX1 44 RX1 yX1_startOf wsX1_startOf) := goodIn_app (goodIn_of _ (by decide +kernel)) ggX1_ticksLost_X1_startOf
set_option maxRecDepth 20000 in
theorem ggX1_ticksLost_X1_endOf : GoodIn wsX1_ticksLost wsX1_endOf := goodIn_r _ [17, 18, 54, 55, 56, 57, 58] (by decide +kernel) (by decide +kernel)
set_option maxRecDepth 20000 in
theorem gX1_ticksLost_X1_endOf : GoodIn wsX1_ticksLost (wsV RX1 28 RX1 yX1_endOf wsX1_endOf) := goodIn_app (goodIn_of _ (by decide +kernel)) ggX1_ticksLost_X1_endOf
set_option maxRecDepth 20000 in
theorem ggX1_ticksLost_X1_tickBehind : GoodIn wsX1_ticksLost wsX1_tickBehind := goodIn_r _ [22, 4, 23, 54, 55, 56, 57, 58] (by decide +kernel) (by decide +kernel)
set_option maxRecDepth 20000 in
theorem gX1_ticksLost_X1_tickBehind : GoodIn wsX1_ticksLost (wsV RX1 32 RX1 yX1_tickBehind wsX1_tickBehind) := goodIn_app (goodIn_of _ (by decide +kernel)) ggX1_ticksLost_X1_tickBehind
set_option maxRecDepth 20000 in
theorem ggX1_ticksLost_X1_keyHeard : GoodIn wsX1_ticksLost wsX1_keyHeard := goodIn_r _ [27, 3, 1, 28, 9, 10, 11, 12, 13, 14, 15, 16, 17, 18, 29, 30, 31, 32, 33, 34, 35, 36, 37, 38, 39, 40, 41, 42, 43, 4, 19, 20, 21, 22, 23, 44, 45, 46, 47, 48, 49, 50, 51, 52, 53, 54, 55, 56, 57, 58, 59, 60, 61, 62, 63] (by decide +kernel) (by decide +kernel)
set_option maxRecDepth 20000 in
theorem gX1_ticksLost_X1_keyHeard : GoodIn wsX1_ticksLost (wsV RX1 75 RX1 yX1_keyHeard wsX1_keyHeard) := goodIn_app (goodIn_of _ (by decide +kernel)) ggX1_ticksLost_X1_keyHeard
theorem dX1_ticksLost_0 : decode cX1_ticksLost 0 = .ok (.aload_n 0, 1) := by decide +kernel
theorem dX1_ticksLost_1 : decode cX1_ticksLost 1 = .ok (.getfield 24, 3) := by decide +kernel
theorem dX1_ticksLost_4 : decode cX1_ticksLost 4 = .ok (.getfield 67, 3) := by decide +kernel
theorem dX1_ticksLost_7 : decode cX1_ticksLost 7 = .ok (.iload_n 2, 1) := by decide +kernel
theorem dX1_ticksLost_8 : decode cX1_ticksLost 8 = .ok (.iaload, 1) := by decide +kernel
theorem dX1_ticksLost_9 : decode cX1_ticksLost 9 = .ok (.istore_n 3, 1) := by decide +kernel
theorem dX1_ticksLost_10 : decode cX1_ticksLost 10 = .ok (.iconst 0, 1) := by decide +kernel
theorem dX1_ticksLost_11 : decode cX1_ticksLost 11 = .ok (.istore 4, 2) := by decide +kernel
theorem dX1_ticksLost_13 : decode cX1_ticksLost 13 = .ok (.iconst 0, 1) := by decide +kernel
theorem dX1_ticksLost_14 : decode cX1_ticksLost 14 = .ok (.istore 5, 2) := by decide +kernel
theorem dX1_ticksLost_16 : decode cX1_ticksLost 16 = .ok (.aload_n 0, 1) := by decide +kernel
theorem dX1_ticksLost_17 : decode cX1_ticksLost 17 = .ok (.iload_n 1, 1) := by decide +kernel
theorem dX1_ticksLost_18 : decode cX1_ticksLost 18 = .ok (.invokevirtual 44, 3) := by decide +kernel
theorem dX1_ticksLost_21 : decode cX1_ticksLost 21 = .ok (.istore 6, 2) := by decide +kernel
theorem dX1_ticksLost_23 : decode cX1_ticksLost 23 = .ok (.iload 6, 2) := by decide +kernel
theorem dX1_ticksLost_25 : decode cX1_ticksLost 25 = .ok (.aload_n 0, 1) := by decide +kernel
theorem dX1_ticksLost_26 : decode cX1_ticksLost 26 = .ok (.iload_n 1, 1) := by decide +kernel
theorem dX1_ticksLost_27 : decode cX1_ticksLost 27 = .ok (.invokevirtual 28, 3) := by decide +kernel
theorem dX1_ticksLost_30 : decode cX1_ticksLost 30 = .ok (.if_icmp .ge 82, 3) := by decide +kernel
theorem dX1_ticksLost_33 : decode cX1_ticksLost 33 = .ok (.aload_n 0, 1) := by decide +kernel
theorem dX1_ticksLost_34 : decode cX1_ticksLost 34 = .ok (.getfield 9, 3) := by decide +kernel
theorem dX1_ticksLost_37 : decode cX1_ticksLost 37 = .ok (.iload 6, 2) := by decide +kernel
theorem dX1_ticksLost_39 : decode cX1_ticksLost 39 = .ok (.iaload, 1) := by decide +kernel
theorem dX1_ticksLost_40 : decode cX1_ticksLost 40 = .ok (.iload_n 2, 1) := by decide +kernel
theorem dX1_ticksLost_41 : decode cX1_ticksLost 41 = .ok (.if_icmp .eq 6, 3) := by decide +kernel
theorem dX1_ticksLost_44 : decode cX1_ticksLost 44 = .ok (.goto 62, 3) := by decide +kernel
theorem dX1_ticksLost_47 : decode cX1_ticksLost 47 = .ok (.iload 5, 2) := by decide +kernel
theorem dX1_ticksLost_49 : decode cX1_ticksLost 49 = .ok (.aload_n 0, 1) := by decide +kernel
theorem dX1_ticksLost_50 : decode cX1_ticksLost 50 = .ok (.getfield 15, 3) := by decide +kernel
theorem dX1_ticksLost_53 : decode cX1_ticksLost 53 = .ok (.iload 6, 2) := by decide +kernel
theorem dX1_ticksLost_55 : decode cX1_ticksLost 55 = .ok (.iaload, 1) := by decide +kernel
theorem dX1_ticksLost_56 : decode cX1_ticksLost 56 = .ok (.invokestatic 70, 3) := by decide +kernel
theorem dX1_ticksLost_59 : decode cX1_ticksLost 59 = .ok (.istore 7, 2) := by decide +kernel
theorem dX1_ticksLost_61 : decode cX1_ticksLost 61 = .ok (.iload 7, 2) := by decide +kernel
theorem dX1_ticksLost_63 : decode cX1_ticksLost 63 = .ok (.aload_n 0, 1) := by decide +kernel
theorem dX1_ticksLost_64 : decode cX1_ticksLost 64 = .ok (.iload 6, 2) := by decide +kernel
theorem dX1_ticksLost_66 : decode cX1_ticksLost 66 = .ok (.invokevirtual 32, 3) := by decide +kernel
theorem dX1_ticksLost_69 : decode cX1_ticksLost 69 = .ok (.if_icmp .ge 24, 3) := by decide +kernel
theorem dX1_ticksLost_72 : decode cX1_ticksLost 72 = .ok (.aload_n 0, 1) := by decide +kernel
theorem dX1_ticksLost_73 : decode cX1_ticksLost 73 = .ok (.iload_n 1, 1) := by decide +kernel
theorem dX1_ticksLost_74 : decode cX1_ticksLost 74 = .ok (.iload_n 3, 1) := by decide +kernel
theorem dX1_ticksLost_75 : decode cX1_ticksLost 75 = .ok (.iload 7, 2) := by decide +kernel
theorem dX1_ticksLost_77 : decode cX1_ticksLost 77 = .ok (.invokevirtual 75, 3) := by decide +kernel
theorem dX1_ticksLost_80 : decode cX1_ticksLost 80 = .ok (.iload_n 2, 1) := by decide +kernel
theorem dX1_ticksLost_81 : decode cX1_ticksLost 81 = .ok (.if_icmp .eq 6, 3) := by decide +kernel
theorem dX1_ticksLost_84 : decode cX1_ticksLost 84 = .ok (.iinc 4 1, 3) := by decide +kernel
theorem dX1_ticksLost_87 : decode cX1_ticksLost 87 = .ok (.iinc 7 1, 3) := by decide +kernel
theorem dX1_ticksLost_90 : decode cX1_ticksLost 90 = .ok (.goto (-29), 3) := by decide +kernel
theorem dX1_ticksLost_93 : decode cX1_ticksLost 93 = .ok (.iload 5, 2) := by decide +kernel
theorem dX1_ticksLost_95 : decode cX1_ticksLost 95 = .ok (.aload_n 0, 1) := by decide +kernel
theorem dX1_ticksLost_96 : decode cX1_ticksLost 96 = .ok (.iload 6, 2) := by decide +kernel
theorem dX1_ticksLost_98 : decode cX1_ticksLost 98 = .ok (.invokevirtual 32, 3) := by decide +kernel
theorem dX1_ticksLost_101 : decode cX1_ticksLost 101 = .ok (.invokestatic 70, 3) := by decide +kernel
theorem dX1_ticksLost_104 : decode cX1_ticksLost 104 = .ok (.istore 5, 2) := by decide +kernel
theorem dX1_ticksLost_106 : decode cX1_ticksLost 106 = .ok (.iinc 6 1, 3) := by decide +kernel
theorem dX1_ticksLost_109 : decode cX1_ticksLost 109 = .ok (.goto (-86), 3) := by decide +kernel
theorem dX1_ticksLost_112 : decode cX1_ticksLost 112 = .ok (.iload 4, 2) := by decide +kernel
theorem dX1_ticksLost_114 : decode cX1_ticksLost 114 = .ok (.ireturn, 1) := by decide +kernel
set_option maxRecDepth 20000 in
theorem ggX1_allKeysThere_X1_startOf : GoodIn wsX1_allKeysThere wsX1_startOf := goodIn_r _ [7] (by decide +kernel) (by decide +kernel)
set_option maxRecDepth 20000 in
theorem gX1_allKeysThere_X1_startOf : GoodIn wsX1_allKeysThere (wsV RX1 44 RX1 yX1_startOf wsX1_startOf) := goodIn_app (goodIn_of _ (by decide +kernel)) ggX1_allKeysThere_X1_startOf
set_option maxRecDepth 20000 in
theorem ggX1_allKeysThere_X1_endOf : GoodIn wsX1_allKeysThere wsX1_endOf := goodIn_r _ [11, 12, 19, 20, 21, 22, 23] (by decide +kernel) (by decide +kernel)
set_option maxRecDepth 20000 in
theorem gX1_allKeysThere_X1_endOf : GoodIn wsX1_allKeysThere (wsV RX1 28 RX1 yX1_endOf wsX1_endOf) := goodIn_app (goodIn_of _ (by decide +kernel)) ggX1_allKeysThere_X1_endOf
set_option maxRecDepth 20000 in
theorem ggX1_allKeysThere_X0_has : GoodIn wsX1_allKeysThere wsX0_has := goodIn_r _ [17, 18, 24, 25, 26, 27, 28] (by decide +kernel) (by decide +kernel)
set_option maxRecDepth 20000 in
theorem gX1_allKeysThere_X0_has : GoodIn wsX1_allKeysThere (wsV RX1 79 RX0 yX0_has wsX0_has) := goodIn_app (goodIn_of _ (by decide +kernel)) ggX1_allKeysThere_X0_has
theorem dX1_allKeysThere_0 : decode cX1_allKeysThere 0 = .ok (.aload_n 0, 1) := by decide +kernel
theorem dX1_allKeysThere_1 : decode cX1_allKeysThere 1 = .ok (.iload_n 1, 1) := by decide +kernel
theorem dX1_allKeysThere_2 : decode cX1_allKeysThere 2 = .ok (.invokevirtual 44, 3) := by decide +kernel
theorem dX1_allKeysThere_5 : decode cX1_allKeysThere 5 = .ok (.istore_n 2, 1) := by decide +kernel
theorem dX1_allKeysThere_6 : decode cX1_allKeysThere 6 = .ok (.iload_n 2, 1) := by decide +kernel
theorem dX1_allKeysThere_7 : decode cX1_allKeysThere 7 = .ok (.aload_n 0, 1) := by decide +kernel
theorem dX1_allKeysThere_8 : decode cX1_allKeysThere 8 = .ok (.iload_n 1, 1) := by decide +kernel
theorem dX1_allKeysThere_9 : decode cX1_allKeysThere 9 = .ok (.invokevirtual 28, 3) := by decide +kernel
theorem dX1_allKeysThere_12 : decode cX1_allKeysThere 12 = .ok (.if_icmp .ge 27, 3) := by decide +kernel
theorem dX1_allKeysThere_15 : decode cX1_allKeysThere 15 = .ok (.aload_n 0, 1) := by decide +kernel
theorem dX1_allKeysThere_16 : decode cX1_allKeysThere 16 = .ok (.getfield 24, 3) := by decide +kernel
theorem dX1_allKeysThere_19 : decode cX1_allKeysThere 19 = .ok (.aload_n 0, 1) := by decide +kernel
theorem dX1_allKeysThere_20 : decode cX1_allKeysThere 20 = .ok (.getfield 9, 3) := by decide +kernel
theorem dX1_allKeysThere_23 : decode cX1_allKeysThere 23 = .ok (.iload_n 2, 1) := by decide +kernel
theorem dX1_allKeysThere_24 : decode cX1_allKeysThere 24 = .ok (.iaload, 1) := by decide +kernel
theorem dX1_allKeysThere_25 : decode cX1_allKeysThere 25 = .ok (.invokevirtual 79, 3) := by decide +kernel
theorem dX1_allKeysThere_28 : decode cX1_allKeysThere 28 = .ok (.ifCond .ne 5, 3) := by decide +kernel
theorem dX1_allKeysThere_31 : decode cX1_allKeysThere 31 = .ok (.iconst 0, 1) := by decide +kernel
theorem dX1_allKeysThere_32 : decode cX1_allKeysThere 32 = .ok (.ireturn, 1) := by decide +kernel
theorem dX1_allKeysThere_33 : decode cX1_allKeysThere 33 = .ok (.iinc 2 1, 3) := by decide +kernel
theorem dX1_allKeysThere_36 : decode cX1_allKeysThere 36 = .ok (.goto (-30), 3) := by decide +kernel
theorem dX1_allKeysThere_39 : decode cX1_allKeysThere 39 = .ok (.iconst 1, 1) := by decide +kernel
theorem dX1_allKeysThere_40 : decode cX1_allKeysThere 40 = .ok (.ireturn, 1) := by decide +kernel
theorem dX2_init_0 : decode cX2_init 0 = .ok (.aload_n 0, 1) := by decide +kernel
theorem dX2_init_1 : decode cX2_init 1 = .ok (.invokespecial 3, 3) := by decide +kernel
theorem dX2_init_4 : decode cX2_init 4 = .ok (.aload_n 0, 1) := by decide +kernel
theorem dX2_init_5 : decode cX2_init 5 = .ok (.bipush 24, 2) := by decide +kernel
theorem dX2_init_7 : decode cX2_init 7 = .ok (.newarray .int, 2) := by decide +kernel
theorem dX2_init_9 : decode cX2_init 9 = .ok (.putfield 9, 3) := by decide +kernel
theorem dX2_init_12 : decode cX2_init 12 = .ok (.aload_n 0, 1) := by decide +kernel
theorem dX2_init_13 : decode cX2_init 13 = .ok (.iconst 0, 1) := by decide +kernel
theorem dX2_init_14 : decode cX2_init 14 = .ok (.putfield 15, 3) := by decide +kernel
theorem dX2_init_17 : decode cX2_init 17 = .ok (.aload_n 0, 1) := by decide +kernel
theorem dX2_init_18 : decode cX2_init 18 = .ok (.iconst 0, 1) := by decide +kernel
theorem dX2_init_19 : decode cX2_init 19 = .ok (.putfield 19, 3) := by decide +kernel
theorem dX2_init_22 : decode cX2_init 22 = .ok (.aload_n 0, 1) := by decide +kernel
theorem dX2_init_23 : decode cX2_init 23 = .ok (.aload_n 1, 1) := by decide +kernel
theorem dX2_init_24 : decode cX2_init 24 = .ok (.putfield 22, 3) := by decide +kernel
theorem dX2_init_27 : decode cX2_init 27 = .ok (.aload_n 0, 1) := by decide +kernel
theorem dX2_init_28 : decode cX2_init 28 = .ok (.aload_n 2, 1) := by decide +kernel
theorem dX2_init_29 : decode cX2_init 29 = .ok (.putfield 26, 3) := by decide +kernel
theorem dX2_init_32 : decode cX2_init 32 = .ok (.iconst 0, 1) := by decide +kernel
theorem dX2_init_33 : decode cX2_init 33 = .ok (.istore_n 3, 1) := by decide +kernel
theorem dX2_init_34 : decode cX2_init 34 = .ok (.iload_n 3, 1) := by decide +kernel
theorem dX2_init_35 : decode cX2_init 35 = .ok (.bipush 24, 2) := by decide +kernel
theorem dX2_init_37 : decode cX2_init 37 = .ok (.if_icmp .ge 17, 3) := by decide +kernel
theorem dX2_init_40 : decode cX2_init 40 = .ok (.aload_n 0, 1) := by decide +kernel
theorem dX2_init_41 : decode cX2_init 41 = .ok (.getfield 9, 3) := by decide +kernel
theorem dX2_init_44 : decode cX2_init 44 = .ok (.iload_n 3, 1) := by decide +kernel
theorem dX2_init_45 : decode cX2_init 45 = .ok (.ldc 30, 2) := by decide +kernel
theorem dX2_init_47 : decode cX2_init 47 = .ok (.iastore, 1) := by decide +kernel
theorem dX2_init_48 : decode cX2_init 48 = .ok (.iinc 3 1, 3) := by decide +kernel
theorem dX2_init_51 : decode cX2_init 51 = .ok (.goto (-17), 3) := by decide +kernel
theorem dX2_init_54 : decode cX2_init 54 = .ok (.return_, 1) := by decide +kernel
theorem dX2_countMeasured_0 : decode cX2_countMeasured 0 = .ok (.iconst 0, 1) := by decide +kernel
theorem dX2_countMeasured_1 : decode cX2_countMeasured 1 = .ok (.istore_n 1, 1) := by decide +kernel
theorem dX2_countMeasured_2 : decode cX2_countMeasured 2 = .ok (.iconst 0, 1) := by decide +kernel
theorem dX2_countMeasured_3 : decode cX2_countMeasured 3 = .ok (.istore_n 2, 1) := by decide +kernel
theorem dX2_countMeasured_4 : decode cX2_countMeasured 4 = .ok (.iload_n 2, 1) := by decide +kernel
theorem dX2_countMeasured_5 : decode cX2_countMeasured 5 = .ok (.aload_n 0, 1) := by decide +kernel
theorem dX2_countMeasured_6 : decode cX2_countMeasured 6 = .ok (.getfield 22, 3) := by decide +kernel
theorem dX2_countMeasured_9 : decode cX2_countMeasured 9 = .ok (.getfield 31, 3) := by decide +kernel
theorem dX2_countMeasured_12 : decode cX2_countMeasured 12 = .ok (.if_icmp .ge 23, 3) := by decide +kernel
theorem dX2_countMeasured_15 : decode cX2_countMeasured 15 = .ok (.aload_n 0, 1) := by decide +kernel
theorem dX2_countMeasured_16 : decode cX2_countMeasured 16 = .ok (.getfield 9, 3) := by decide +kernel
theorem dX2_countMeasured_19 : decode cX2_countMeasured 19 = .ok (.iload_n 2, 1) := by decide +kernel
theorem dX2_countMeasured_20 : decode cX2_countMeasured 20 = .ok (.iaload, 1) := by decide +kernel
theorem dX2_countMeasured_21 : decode cX2_countMeasured 21 = .ok (.ldc 30, 2) := by decide +kernel
theorem dX2_countMeasured_23 : decode cX2_countMeasured 23 = .ok (.if_icmp .eq 6, 3) := by decide +kernel
theorem dX2_countMeasured_26 : decode cX2_countMeasured 26 = .ok (.iinc 1 1, 3) := by decide +kernel
theorem dX2_countMeasured_29 : decode cX2_countMeasured 29 = .ok (.iinc 2 1, 3) := by decide +kernel
theorem dX2_countMeasured_32 : decode cX2_countMeasured 32 = .ok (.goto (-28), 3) := by decide +kernel
theorem dX2_countMeasured_35 : decode cX2_countMeasured 35 = .ok (.iload_n 1, 1) := by decide +kernel
theorem dX2_countMeasured_36 : decode cX2_countMeasured 36 = .ok (.ireturn, 1) := by decide +kernel
set_option maxRecDepth 20000 in
theorem ggX2_misfitAt_X3_goalAt : GoodIn wsX2_misfitAt wsX3_goalAt := goodIn_r _ [14, 15, 16, 27, 28] (by decide +kernel) (by decide +kernel)
set_option maxRecDepth 20000 in
theorem gX2_misfitAt_X3_goalAt : GoodIn wsX2_misfitAt (wsV RX2 36 RX3 yX3_goalAt wsX3_goalAt) := goodIn_app (goodIn_of _ (by decide +kernel)) ggX2_misfitAt_X3_goalAt
theorem dX2_misfitAt_0 : decode cX2_misfitAt 0 = .ok (.iconst 0, 1) := by decide +kernel
theorem dX2_misfitAt_1 : decode cX2_misfitAt 1 = .ok (.istore 4, 2) := by decide +kernel
theorem dX2_misfitAt_3 : decode cX2_misfitAt 3 = .ok (.iconst 0, 1) := by decide +kernel
theorem dX2_misfitAt_4 : decode cX2_misfitAt 4 = .ok (.istore 5, 2) := by decide +kernel
theorem dX2_misfitAt_6 : decode cX2_misfitAt 6 = .ok (.iload 5, 2) := by decide +kernel
theorem dX2_misfitAt_8 : decode cX2_misfitAt 8 = .ok (.aload_n 0, 1) := by decide +kernel
theorem dX2_misfitAt_9 : decode cX2_misfitAt 9 = .ok (.getfield 22, 3) := by decide +kernel
theorem dX2_misfitAt_12 : decode cX2_misfitAt 12 = .ok (.getfield 31, 3) := by decide +kernel
theorem dX2_misfitAt_15 : decode cX2_misfitAt 15 = .ok (.if_icmp .ge 57, 3) := by decide +kernel
theorem dX2_misfitAt_18 : decode cX2_misfitAt 18 = .ok (.iload 5, 2) := by decide +kernel
theorem dX2_misfitAt_20 : decode cX2_misfitAt 20 = .ok (.iload_n 3, 1) := by decide +kernel
theorem dX2_misfitAt_21 : decode cX2_misfitAt 21 = .ok (.if_icmp .eq 45, 3) := by decide +kernel
theorem dX2_misfitAt_24 : decode cX2_misfitAt 24 = .ok (.aload_n 0, 1) := by decide +kernel
theorem dX2_misfitAt_25 : decode cX2_misfitAt 25 = .ok (.getfield 9, 3) := by decide +kernel
theorem dX2_misfitAt_28 : decode cX2_misfitAt 28 = .ok (.iload 5, 2) := by decide +kernel
theorem dX2_misfitAt_30 : decode cX2_misfitAt 30 = .ok (.iaload, 1) := by decide +kernel
theorem dX2_misfitAt_31 : decode cX2_misfitAt 31 = .ok (.ldc 30, 2) := by decide +kernel
theorem dX2_misfitAt_33 : decode cX2_misfitAt 33 = .ok (.if_icmp .ne 6, 3) := by decide +kernel
theorem dX2_misfitAt_36 : decode cX2_misfitAt 36 = .ok (.goto 30, 3) := by decide +kernel
theorem dX2_misfitAt_39 : decode cX2_misfitAt 39 = .ok (.iload 4, 2) := by decide +kernel
theorem dX2_misfitAt_41 : decode cX2_misfitAt 41 = .ok (.aload_n 0, 1) := by decide +kernel
theorem dX2_misfitAt_42 : decode cX2_misfitAt 42 = .ok (.getfield 26, 3) := by decide +kernel
theorem dX2_misfitAt_45 : decode cX2_misfitAt 45 = .ok (.iload_n 1, 1) := by decide +kernel
theorem dX2_misfitAt_46 : decode cX2_misfitAt 46 = .ok (.iload_n 2, 1) := by decide +kernel
theorem dX2_misfitAt_47 : decode cX2_misfitAt 47 = .ok (.iload 5, 2) := by decide +kernel
theorem dX2_misfitAt_49 : decode cX2_misfitAt 49 = .ok (.invokevirtual 36, 3) := by decide +kernel
theorem dX2_misfitAt_52 : decode cX2_misfitAt 52 = .ok (.aload_n 0, 1) := by decide +kernel
theorem dX2_misfitAt_53 : decode cX2_misfitAt 53 = .ok (.getfield 9, 3) := by decide +kernel
theorem dX2_misfitAt_56 : decode cX2_misfitAt 56 = .ok (.iload 5, 2) := by decide +kernel
theorem dX2_misfitAt_58 : decode cX2_misfitAt 58 = .ok (.iaload, 1) := by decide +kernel
theorem dX2_misfitAt_59 : decode cX2_misfitAt 59 = .ok (.isub, 1) := by decide +kernel
theorem dX2_misfitAt_60 : decode cX2_misfitAt 60 = .ok (.invokestatic 42, 3) := by decide +kernel
theorem dX2_misfitAt_63 : decode cX2_misfitAt 63 = .ok (.iadd, 1) := by decide +kernel
theorem dX2_misfitAt_64 : decode cX2_misfitAt 64 = .ok (.istore 4, 2) := by decide +kernel
theorem dX2_misfitAt_66 : decode cX2_misfitAt 66 = .ok (.iinc 5 1, 3) := by decide +kernel
theorem dX2_misfitAt_69 : decode cX2_misfitAt 69 = .ok (.goto (-63), 3) := by decide +kernel
theorem dX2_misfitAt_72 : decode cX2_misfitAt 72 = .ok (.iload 4, 2) := by decide +kernel
theorem dX2_misfitAt_74 : decode cX2_misfitAt 74 = .ok (.ireturn, 1) := by decide +kernel
set_option maxRecDepth 20000 in
theorem ggX2_seek_X2_likelyPitch : GoodIn wsX2_seek wsX2_likelyPitch := goodIn_r _ [8, 9, 10, 11, 7, 12, 13, 14, 15, 16, 17, 18, 19, 20, 21, 22, 23, 24, 25, 26, 27, 28, 29, 30, 31, 32, 33, 34, 35, 36, 37, 38, 39, 40] (by decide +kernel) (by decide +kernel)
set_option maxRecDepth 20000 in
theorem gX2_seek_X2_likelyPitch : GoodIn wsX2_seek (wsV RX2 48 RX2 yX2_likelyPitch wsX2_likelyPitch) := goodIn_app (goodIn_of _ (by decide +kernel)) ggX2_seek_X2_likelyPitch
set_option maxRecDepth 20000 in
theorem ggX2_seek_X2_misfitAt : GoodIn wsX2_seek wsX2_misfitAt := goodIn_r _ [12, 13, 14, 15, 16, 17, 18, 19, 20, 21, 22, 23, 24, 25, 26, 27, 28, 29, 30, 31, 32, 33, 34, 35, 36, 37, 38, 39, 40] (by decide +kernel) (by decide +kernel)
set_option maxRecDepth 20000 in
theorem gX2_seek_X2_misfitAt : GoodIn wsX2_seek (wsV RX2 52 RX2 yX2_misfitAt wsX2_misfitAt) := goodIn_app (goodIn_of _ (by decide +kernel)) ggX2_seek_X2_misfitAt
theorem dX2_seek_0 : decode cX2_seek 0 = .ok (.aload_n 0, 1) := by decide +kernel
theorem dX2_seek_1 : decode cX2_seek 1 = .ok (.iload_n 1, 1) := by decide +kernel
theorem dX2_seek_2 : decode cX2_seek 2 = .ok (.iload_n 2, 1) := by decide +kernel
theorem dX2_seek_3 : decode cX2_seek 3 = .ok (.invokevirtual 48, 3) := by decide +kernel
theorem dX2_seek_6 : decode cX2_seek 6 = .ok (.istore_n 3, 1) := by decide +kernel
theorem dX2_seek_7 : decode cX2_seek 7 = .ok (.iload_n 3, 1) := by decide +kernel
theorem dX2_seek_8 : decode cX2_seek 8 = .ok (.istore 4, 2) := by decide +kernel
theorem dX2_seek_10 : decode cX2_seek 10 = .ok (.aload_n 0, 1) := by decide +kernel
theorem dX2_seek_11 : decode cX2_seek 11 = .ok (.iload_n 1, 1) := by decide +kernel
theorem dX2_seek_12 : decode cX2_seek 12 = .ok (.iload_n 3, 1) := by decide +kernel
theorem dX2_seek_13 : decode cX2_seek 13 = .ok (.iload_n 2, 1) := by decide +kernel
theorem dX2_seek_14 : decode cX2_seek 14 = .ok (.invokevirtual 52, 3) := by decide +kernel
theorem dX2_seek_17 : decode cX2_seek 17 = .ok (.istore 5, 2) := by decide +kernel
theorem dX2_seek_19 : decode cX2_seek 19 = .ok (.iload_n 3, 1) := by decide +kernel
theorem dX2_seek_20 : decode cX2_seek 20 = .ok (.bipush 20, 2) := by decide +kernel
theorem dX2_seek_22 : decode cX2_seek 22 = .ok (.iadd, 1) := by decide +kernel
theorem dX2_seek_23 : decode cX2_seek 23 = .ok (.istore 6, 2) := by decide +kernel
theorem dX2_seek_25 : decode cX2_seek 25 = .ok (.iload 6, 2) := by decide +kernel
theorem dX2_seek_27 : decode cX2_seek 27 = .ok (.ldc 55, 2) := by decide +kernel
theorem dX2_seek_29 : decode cX2_seek 29 = .ok (.if_icmp .gt 47, 3) := by decide +kernel
theorem dX2_seek_32 : decode cX2_seek 32 = .ok (.aload_n 0, 1) := by decide +kernel
theorem dX2_seek_33 : decode cX2_seek 33 = .ok (.iload_n 1, 1) := by decide +kernel
theorem dX2_seek_34 : decode cX2_seek 34 = .ok (.iload 6, 2) := by decide +kernel
theorem dX2_seek_36 : decode cX2_seek 36 = .ok (.iload_n 2, 1) := by decide +kernel
theorem dX2_seek_37 : decode cX2_seek 37 = .ok (.invokevirtual 52, 3) := by decide +kernel
theorem dX2_seek_40 : decode cX2_seek 40 = .ok (.istore 7, 2) := by decide +kernel
theorem dX2_seek_42 : decode cX2_seek 42 = .ok (.iload 7, 2) := by decide +kernel
theorem dX2_seek_44 : decode cX2_seek 44 = .ok (.iload 5, 2) := by decide +kernel
theorem dX2_seek_46 : decode cX2_seek 46 = .ok (.bipush 48, 2) := by decide +kernel
theorem dX2_seek_48 : decode cX2_seek 48 = .ok (.iadd, 1) := by decide +kernel
theorem dX2_seek_49 : decode cX2_seek 49 = .ok (.if_icmp .le 6, 3) := by decide +kernel
theorem dX2_seek_52 : decode cX2_seek 52 = .ok (.goto 24, 3) := by decide +kernel
theorem dX2_seek_55 : decode cX2_seek 55 = .ok (.iload 7, 2) := by decide +kernel
theorem dX2_seek_57 : decode cX2_seek 57 = .ok (.iload 5, 2) := by decide +kernel
theorem dX2_seek_59 : decode cX2_seek 59 = .ok (.if_icmp .ge 11, 3) := by decide +kernel
theorem dX2_seek_62 : decode cX2_seek 62 = .ok (.iload 7, 2) := by decide +kernel
theorem dX2_seek_64 : decode cX2_seek 64 = .ok (.istore 5, 2) := by decide +kernel
theorem dX2_seek_66 : decode cX2_seek 66 = .ok (.iload 6, 2) := by decide +kernel
theorem dX2_seek_68 : decode cX2_seek 68 = .ok (.istore 4, 2) := by decide +kernel
theorem dX2_seek_70 : decode cX2_seek 70 = .ok (.iinc 6 20, 3) := by decide +kernel
theorem dX2_seek_73 : decode cX2_seek 73 = .ok (.goto (-48), 3) := by decide +kernel
theorem dX2_seek_76 : decode cX2_seek 76 = .ok (.iload_n 3, 1) := by decide +kernel
theorem dX2_seek_77 : decode cX2_seek 77 = .ok (.bipush 20, 2) := by decide +kernel
theorem dX2_seek_79 : decode cX2_seek 79 = .ok (.isub, 1) := by decide +kernel
theorem dX2_seek_80 : decode cX2_seek 80 = .ok (.istore 6, 2) := by decide +kernel
theorem dX2_seek_82 : decode cX2_seek 82 = .ok (.iload 6, 2) := by decide +kernel
theorem dX2_seek_84 : decode cX2_seek 84 = .ok (.sipush 1000, 3) := by decide +kernel
theorem dX2_seek_87 : decode cX2_seek 87 = .ok (.if_icmp .lt 47, 3) := by decide +kernel
theorem dX2_seek_90 : decode cX2_seek 90 = .ok (.aload_n 0, 1) := by decide +kernel
theorem dX2_seek_91 : decode cX2_seek 91 = .ok (.iload_n 1, 1) := by decide +kernel
theorem dX2_seek_92 : decode cX2_seek 92 = .ok (.iload 6, 2) := by decide +kernel
theorem dX2_seek_94 : decode cX2_seek 94 = .ok (.iload_n 2, 1) := by decide +kernel
theorem dX2_seek_95 : decode cX2_seek 95 = .ok (.invokevirtual 52, 3) := by decide +kernel
theorem dX2_seek_98 : decode cX2_seek 98 = .ok (.istore 7, 2) := by decide +kernel
theorem dX2_seek_100 : decode cX2_seek 100 = .ok (.iload 7, 2) := by decide +kernel
theorem dX2_seek_102 : decode cX2_seek 102 = .ok (.iload 5, 2) := by decide +kernel
theorem dX2_seek_104 : decode cX2_seek 104 = .ok (.bipush 48, 2) := by decide +kernel
theorem dX2_seek_106 : decode cX2_seek 106 = .ok (.iadd, 1) := by decide +kernel
theorem dX2_seek_107 : decode cX2_seek 107 = .ok (.if_icmp .le 6, 3) := by decide +kernel
theorem dX2_seek_110 : decode cX2_seek 110 = .ok (.goto 24, 3) := by decide +kernel
theorem dX2_seek_113 : decode cX2_seek 113 = .ok (.iload 7, 2) := by decide +kernel
theorem dX2_seek_115 : decode cX2_seek 115 = .ok (.iload 5, 2) := by decide +kernel
theorem dX2_seek_117 : decode cX2_seek 117 = .ok (.if_icmp .gt 11, 3) := by decide +kernel
theorem dX2_seek_120 : decode cX2_seek 120 = .ok (.iload 7, 2) := by decide +kernel
theorem dX2_seek_122 : decode cX2_seek 122 = .ok (.istore 5, 2) := by decide +kernel
theorem dX2_seek_124 : decode cX2_seek 124 = .ok (.iload 6, 2) := by decide +kernel
theorem dX2_seek_126 : decode cX2_seek 126 = .ok (.istore 4, 2) := by decide +kernel
theorem dX2_seek_128 : decode cX2_seek 128 = .ok (.iinc 6 (-20), 3) := by decide +kernel
theorem dX2_seek_131 : decode cX2_seek 131 = .ok (.goto (-49), 3) := by decide +kernel
theorem dX2_seek_134 : decode cX2_seek 134 = .ok (.aload_n 0, 1) := by decide +kernel
theorem dX2_seek_135 : decode cX2_seek 135 = .ok (.iload 4, 2) := by decide +kernel
theorem dX2_seek_137 : decode cX2_seek 137 = .ok (.putfield 15, 3) := by decide +kernel
theorem dX2_seek_140 : decode cX2_seek 140 = .ok (.aload_n 0, 1) := by decide +kernel
theorem dX2_seek_141 : decode cX2_seek 141 = .ok (.iload 5, 2) := by decide +kernel
theorem dX2_seek_143 : decode cX2_seek 143 = .ok (.putfield 19, 3) := by decide +kernel
theorem dX2_seek_146 : decode cX2_seek 146 = .ok (.return_, 1) := by decide +kernel
set_option maxRecDepth 20000 in
theorem ggX2_likelyPitch_X2_misfitAt : GoodIn wsX2_likelyPitch wsX2_misfitAt := goodIn_r _ [5, 6, 7, 8, 9, 10, 11, 12, 13, 14, 15, 16, 17, 18, 19, 20, 21, 22, 23, 24, 25, 26, 27, 28, 29, 30, 31, 32, 33] (by decide +kernel) (by decide +kernel)
set_option maxRecDepth 20000 in
theorem gX2_likelyPitch_X2_misfitAt : GoodIn wsX2_likelyPitch (wsV RX2 52 RX2 yX2_misfitAt wsX2_misfitAt) := goodIn_app (goodIn_of _ (by decide +kernel)) ggX2_likelyPitch_X2_misfitAt
theorem dX2_likelyPitch_0 : decode cX2_likelyPitch 0 = .ok (.iconst 0, 1) := by decide +kernel
theorem dX2_likelyPitch_1 : decode cX2_likelyPitch 1 = .ok (.istore_n 3, 1) := by decide +kernel
theorem dX2_likelyPitch_2 : decode cX2_likelyPitch 2 = .ok (.sipush 9950, 3) := by decide +kernel
theorem dX2_likelyPitch_5 : decode cX2_likelyPitch 5 = .ok (.istore 4, 2) := by decide +kernel
theorem dX2_likelyPitch_7 : decode cX2_likelyPitch 7 = .ok (.iconst 0, 1) := by decide +kernel
theorem dX2_likelyPitch_8 : decode cX2_likelyPitch 8 = .ok (.istore 5, 2) := by decide +kernel
theorem dX2_likelyPitch_10 : decode cX2_likelyPitch 10 = .ok (.iload 5, 2) := by decide +kernel
theorem dX2_likelyPitch_12 : decode cX2_likelyPitch 12 = .ok (.bipush 14, 2) := by decide +kernel
theorem dX2_likelyPitch_14 : decode cX2_likelyPitch 14 = .ok (.if_icmp .ge 72, 3) := by decide +kernel
theorem dX2_likelyPitch_17 : decode cX2_likelyPitch 17 = .ok (.iload_n 3, 1) := by decide +kernel
theorem dX2_likelyPitch_18 : decode cX2_likelyPitch 18 = .ok (.iload 4, 2) := by decide +kernel
theorem dX2_likelyPitch_20 : decode cX2_likelyPitch 20 = .ok (.if_icmp .ge 66, 3) := by decide +kernel
theorem dX2_likelyPitch_23 : decode cX2_likelyPitch 23 = .ok (.iload_n 3, 1) := by decide +kernel
theorem dX2_likelyPitch_24 : decode cX2_likelyPitch 24 = .ok (.iload 4, 2) := by decide +kernel
theorem dX2_likelyPitch_26 : decode cX2_likelyPitch 26 = .ok (.iadd, 1) := by decide +kernel
theorem dX2_likelyPitch_27 : decode cX2_likelyPitch 27 = .ok (.iconst 2, 1) := by decide +kernel
theorem dX2_likelyPitch_28 : decode cX2_likelyPitch 28 = .ok (.idiv, 1) := by decide +kernel
theorem dX2_likelyPitch_29 : decode cX2_likelyPitch 29 = .ok (.istore 6, 2) := by decide +kernel
theorem dX2_likelyPitch_31 : decode cX2_likelyPitch 31 = .ok (.sipush 1000, 3) := by decide +kernel
theorem dX2_likelyPitch_34 : decode cX2_likelyPitch 34 = .ok (.iload 6, 2) := by decide +kernel
theorem dX2_likelyPitch_36 : decode cX2_likelyPitch 36 = .ok (.bipush 20, 2) := by decide +kernel
theorem dX2_likelyPitch_38 : decode cX2_likelyPitch 38 = .ok (.imul, 1) := by decide +kernel
theorem dX2_likelyPitch_39 : decode cX2_likelyPitch 39 = .ok (.iadd, 1) := by decide +kernel
theorem dX2_likelyPitch_40 : decode cX2_likelyPitch 40 = .ok (.istore 7, 2) := by decide +kernel
theorem dX2_likelyPitch_42 : decode cX2_likelyPitch 42 = .ok (.aload_n 0, 1) := by decide +kernel
theorem dX2_likelyPitch_43 : decode cX2_likelyPitch 43 = .ok (.iload_n 1, 1) := by decide +kernel
theorem dX2_likelyPitch_44 : decode cX2_likelyPitch 44 = .ok (.iload 7, 2) := by decide +kernel
theorem dX2_likelyPitch_46 : decode cX2_likelyPitch 46 = .ok (.iload_n 2, 1) := by decide +kernel
theorem dX2_likelyPitch_47 : decode cX2_likelyPitch 47 = .ok (.invokevirtual 52, 3) := by decide +kernel
theorem dX2_likelyPitch_50 : decode cX2_likelyPitch 50 = .ok (.istore 8, 2) := by decide +kernel
theorem dX2_likelyPitch_52 : decode cX2_likelyPitch 52 = .ok (.iload 8, 2) := by decide +kernel
theorem dX2_likelyPitch_54 : decode cX2_likelyPitch 54 = .ok (.aload_n 0, 1) := by decide +kernel
theorem dX2_likelyPitch_55 : decode cX2_likelyPitch 55 = .ok (.iload_n 1, 1) := by decide +kernel
theorem dX2_likelyPitch_56 : decode cX2_likelyPitch 56 = .ok (.iload 7, 2) := by decide +kernel
theorem dX2_likelyPitch_58 : decode cX2_likelyPitch 58 = .ok (.bipush 20, 2) := by decide +kernel
theorem dX2_likelyPitch_60 : decode cX2_likelyPitch 60 = .ok (.iadd, 1) := by decide +kernel
theorem dX2_likelyPitch_61 : decode cX2_likelyPitch 61 = .ok (.iload_n 2, 1) := by decide +kernel
theorem dX2_likelyPitch_62 : decode cX2_likelyPitch 62 = .ok (.invokevirtual 52, 3) := by decide +kernel
theorem dX2_likelyPitch_65 : decode cX2_likelyPitch 65 = .ok (.if_icmp .gt 10, 3) := by decide +kernel
theorem dX2_likelyPitch_68 : decode cX2_likelyPitch 68 = .ok (.iload 6, 2) := by decide +kernel
theorem dX2_likelyPitch_70 : decode cX2_likelyPitch 70 = .ok (.istore 4, 2) := by decide +kernel
theorem dX2_likelyPitch_72 : decode cX2_likelyPitch 72 = .ok (.goto 8, 3) := by decide +kernel
theorem dX2_likelyPitch_75 : decode cX2_likelyPitch 75 = .ok (.iload 6, 2) := by decide +kernel
theorem dX2_likelyPitch_77 : decode cX2_likelyPitch 77 = .ok (.iconst 1, 1) := by decide +kernel
theorem dX2_likelyPitch_78 : decode cX2_likelyPitch 78 = .ok (.iadd, 1) := by decide +kernel
theorem dX2_likelyPitch_79 : decode cX2_likelyPitch 79 = .ok (.istore_n 3, 1) := by decide +kernel
theorem dX2_likelyPitch_80 : decode cX2_likelyPitch 80 = .ok (.iinc 5 1, 3) := by decide +kernel
theorem dX2_likelyPitch_83 : decode cX2_likelyPitch 83 = .ok (.goto (-73), 3) := by decide +kernel
theorem dX2_likelyPitch_86 : decode cX2_likelyPitch 86 = .ok (.sipush 1000, 3) := by decide +kernel
theorem dX2_likelyPitch_89 : decode cX2_likelyPitch 89 = .ok (.iload_n 3, 1) := by decide +kernel
theorem dX2_likelyPitch_90 : decode cX2_likelyPitch 90 = .ok (.bipush 20, 2) := by decide +kernel
theorem dX2_likelyPitch_92 : decode cX2_likelyPitch 92 = .ok (.imul, 1) := by decide +kernel
theorem dX2_likelyPitch_93 : decode cX2_likelyPitch 93 = .ok (.iadd, 1) := by decide +kernel
theorem dX2_likelyPitch_94 : decode cX2_likelyPitch 94 = .ok (.ireturn, 1) := by decide +kernel
set_option maxRecDepth 20000 in
theorem ggX2_scaleMeant_X2_seek : GoodIn wsX2_scaleMeant wsX2_seek := goodIn_r _ [7, 8, 2, 1, 9, 10, 11, 6, 12, 13, 14, 15, 16, 17, 18, 19, 20, 21, 22, 23, 24, 25, 26, 27, 28, 29, 30, 31, 32, 33, 34, 35, 36, 37, 38, 39, 40, 41, 42, 43, 44] (by decide +kernel) (by decide +kernel)
set_option maxRecDepth 20000 in
theorem gX2_scaleMeant_X2_seek : GoodIn wsX2_scaleMeant (wsV RX2 56 RX2 yX2_seek wsX2_seek) := goodIn_app (goodIn_of _ (by decide +kernel)) ggX2_scaleMeant_X2_seek
theorem dX2_scaleMeant_0 : decode cX2_scaleMeant 0 = .ok (.iconst 0, 1) := by decide +kernel
theorem dX2_scaleMeant_1 : decode cX2_scaleMeant 1 = .ok (.istore_n 1, 1) := by decide +kernel
theorem dX2_scaleMeant_2 : decode cX2_scaleMeant 2 = .ok (.iconst 0, 1) := by decide +kernel
theorem dX2_scaleMeant_3 : decode cX2_scaleMeant 3 = .ok (.istore_n 2, 1) := by decide +kernel
theorem dX2_scaleMeant_4 : decode cX2_scaleMeant 4 = .ok (.iconst 0, 1) := by decide +kernel
theorem dX2_scaleMeant_5 : decode cX2_scaleMeant 5 = .ok (.istore_n 3, 1) := by decide +kernel
theorem dX2_scaleMeant_6 : decode cX2_scaleMeant 6 = .ok (.iconst 0, 1) := by decide +kernel
theorem dX2_scaleMeant_7 : decode cX2_scaleMeant 7 = .ok (.istore 4, 2) := by decide +kernel
theorem dX2_scaleMeant_9 : decode cX2_scaleMeant 9 = .ok (.iload 4, 2) := by decide +kernel
theorem dX2_scaleMeant_11 : decode cX2_scaleMeant 11 = .ok (.iconst 5, 1) := by decide +kernel
theorem dX2_scaleMeant_12 : decode cX2_scaleMeant 12 = .ok (.if_icmp .ge 42, 3) := by decide +kernel
theorem dX2_scaleMeant_15 : decode cX2_scaleMeant 15 = .ok (.aload_n 0, 1) := by decide +kernel
theorem dX2_scaleMeant_16 : decode cX2_scaleMeant 16 = .ok (.iload 4, 2) := by decide +kernel
theorem dX2_scaleMeant_18 : decode cX2_scaleMeant 18 = .ok (.iconst (-1), 1) := by decide +kernel
theorem dX2_scaleMeant_19 : decode cX2_scaleMeant 19 = .ok (.invokevirtual 56, 3) := by decide +kernel
theorem dX2_scaleMeant_22 : decode cX2_scaleMeant 22 = .ok (.iload 4, 2) := by decide +kernel
theorem dX2_scaleMeant_24 : decode cX2_scaleMeant 24 = .ok (.ifCond .eq 11, 3) := by decide +kernel
theorem dX2_scaleMeant_27 : decode cX2_scaleMeant 27 = .ok (.aload_n 0, 1) := by decide +kernel
theorem dX2_scaleMeant_28 : decode cX2_scaleMeant 28 = .ok (.getfield 19, 3) := by decide +kernel
theorem dX2_scaleMeant_31 : decode cX2_scaleMeant 31 = .ok (.iload_n 3, 1) := by decide +kernel
theorem dX2_scaleMeant_32 : decode cX2_scaleMeant 32 = .ok (.if_icmp .ge 16, 3) := by decide +kernel
theorem dX2_scaleMeant_35 : decode cX2_scaleMeant 35 = .ok (.iload 4, 2) := by decide +kernel
theorem dX2_scaleMeant_37 : decode cX2_scaleMeant 37 = .ok (.istore_n 1, 1) := by decide +kernel
theorem dX2_scaleMeant_38 : decode cX2_scaleMeant 38 = .ok (.aload_n 0, 1) := by decide +kernel
theorem dX2_scaleMeant_39 : decode cX2_scaleMeant 39 = .ok (.getfield 15, 3) := by decide +kernel
theorem dX2_scaleMeant_42 : decode cX2_scaleMeant 42 = .ok (.istore_n 2, 1) := by decide +kernel
theorem dX2_scaleMeant_43 : decode cX2_scaleMeant 43 = .ok (.aload_n 0, 1) := by decide +kernel
theorem dX2_scaleMeant_44 : decode cX2_scaleMeant 44 = .ok (.getfield 19, 3) := by decide +kernel
theorem dX2_scaleMeant_47 : decode cX2_scaleMeant 47 = .ok (.istore_n 3, 1) := by decide +kernel
theorem dX2_scaleMeant_48 : decode cX2_scaleMeant 48 = .ok (.iinc 4 1, 3) := by decide +kernel
theorem dX2_scaleMeant_51 : decode cX2_scaleMeant 51 = .ok (.goto (-42), 3) := by decide +kernel
theorem dX2_scaleMeant_54 : decode cX2_scaleMeant 54 = .ok (.aload_n 0, 1) := by decide +kernel
theorem dX2_scaleMeant_55 : decode cX2_scaleMeant 55 = .ok (.iload_n 2, 1) := by decide +kernel
theorem dX2_scaleMeant_56 : decode cX2_scaleMeant 56 = .ok (.putfield 15, 3) := by decide +kernel
theorem dX2_scaleMeant_59 : decode cX2_scaleMeant 59 = .ok (.iload_n 1, 1) := by decide +kernel
theorem dX2_scaleMeant_60 : decode cX2_scaleMeant 60 = .ok (.ireturn, 1) := by decide +kernel
set_option maxRecDepth 20000 in
theorem ggX2_keyAdded_X2_scaleMeant : GoodIn wsX2_keyAdded wsX2_scaleMeant := goodIn_r _ [10, 5, 11, 12, 13, 14, 9, 15, 16, 17, 18, 19, 20, 21, 22, 23, 24, 1, 2, 3, 4, 25, 26, 27, 28, 29, 30, 31, 32, 33, 34, 35, 36, 37, 38, 39, 40, 41, 42, 43, 44, 45, 46, 47, 48] (by decide +kernel) (by decide +kernel)
set_option maxRecDepth 20000 in
theorem gX2_keyAdded_X2_scaleMeant : GoodIn wsX2_keyAdded (wsV RX2 60 RX2 yX2_scaleMeant wsX2_scaleMeant) := goodIn_app (goodIn_of _ (by decide +kernel)) ggX2_keyAdded_X2_scaleMeant
set_option maxRecDepth 20000 in
theorem ggX2_keyAdded_X2_seek : GoodIn wsX2_keyAdded wsX2_seek := goodIn_r _ [15, 16, 11, 5, 17, 18, 19, 9, 20, 21, 22, 23, 24, 1, 2, 3, 4, 25, 26, 27, 28, 29, 30, 31, 32, 33, 34, 35, 36, 37, 38, 39, 40, 41, 42, 43, 44, 45, 46, 47, 48] (by decide +kernel) (by decide +kernel)
set_option maxRecDepth 20000 in
theorem gX2_keyAdded_X2_seek : GoodIn wsX2_keyAdded (wsV RX2 56 RX2 yX2_seek wsX2_seek) := goodIn_app (goodIn_of _ (by decide +kernel)) ggX2_keyAdded_X2_seek
theorem dX2_keyAdded_0 : decode cX2_keyAdded 0 = .ok (.aload_n 0, 1) := by decide +kernel
theorem dX2_keyAdded_1 : decode cX2_keyAdded 1 = .ok (.invokevirtual 60, 3) := by decide +kernel
theorem dX2_keyAdded_4 : decode cX2_keyAdded 4 = .ok (.istore_n 1, 1) := by decide +kernel
theorem dX2_keyAdded_5 : decode cX2_keyAdded 5 = .ok (.iconst (-1), 1) := by decide +kernel
theorem dX2_keyAdded_6 : decode cX2_keyAdded 6 = .ok (.istore_n 2, 1) := by decide +kernel
theorem dX2_keyAdded_7 : decode cX2_keyAdded 7 = .ok (.iconst 0, 1) := by decide +kernel
theorem dX2_keyAdded_8 : decode cX2_keyAdded 8 = .ok (.istore_n 3, 1) := by decide +kernel
theorem dX2_keyAdded_9 : decode cX2_keyAdded 9 = .ok (.iconst 0, 1) := by decide +kernel
theorem dX2_keyAdded_10 : decode cX2_keyAdded 10 = .ok (.istore 4, 2) := by decide +kernel
theorem dX2_keyAdded_12 : decode cX2_keyAdded 12 = .ok (.iload 4, 2) := by decide +kernel
theorem dX2_keyAdded_14 : decode cX2_keyAdded 14 = .ok (.aload_n 0, 1) := by decide +kernel
theorem dX2_keyAdded_15 : decode cX2_keyAdded 15 = .ok (.getfield 22, 3) := by decide +kernel
theorem dX2_keyAdded_18 : decode cX2_keyAdded 18 = .ok (.getfield 31, 3) := by decide +kernel
theorem dX2_keyAdded_21 : decode cX2_keyAdded 21 = .ok (.if_icmp .ge 52, 3) := by decide +kernel
theorem dX2_keyAdded_24 : decode cX2_keyAdded 24 = .ok (.aload_n 0, 1) := by decide +kernel
theorem dX2_keyAdded_25 : decode cX2_keyAdded 25 = .ok (.getfield 9, 3) := by decide +kernel
theorem dX2_keyAdded_28 : decode cX2_keyAdded 28 = .ok (.iload 4, 2) := by decide +kernel
theorem dX2_keyAdded_30 : decode cX2_keyAdded 30 = .ok (.iaload, 1) := by decide +kernel
theorem dX2_keyAdded_31 : decode cX2_keyAdded 31 = .ok (.ldc 30, 2) := by decide +kernel
theorem dX2_keyAdded_33 : decode cX2_keyAdded 33 = .ok (.if_icmp .ne 6, 3) := by decide +kernel
theorem dX2_keyAdded_36 : decode cX2_keyAdded 36 = .ok (.goto 31, 3) := by decide +kernel
theorem dX2_keyAdded_39 : decode cX2_keyAdded 39 = .ok (.aload_n 0, 1) := by decide +kernel
theorem dX2_keyAdded_40 : decode cX2_keyAdded 40 = .ok (.iload_n 1, 1) := by decide +kernel
theorem dX2_keyAdded_41 : decode cX2_keyAdded 41 = .ok (.iload 4, 2) := by decide +kernel
theorem dX2_keyAdded_43 : decode cX2_keyAdded 43 = .ok (.invokevirtual 56, 3) := by decide +kernel
theorem dX2_keyAdded_46 : decode cX2_keyAdded 46 = .ok (.iload_n 2, 1) := by decide +kernel
theorem dX2_keyAdded_47 : decode cX2_keyAdded 47 = .ok (.iconst (-1), 1) := by decide +kernel
theorem dX2_keyAdded_48 : decode cX2_keyAdded 48 = .ok (.if_icmp .eq 11, 3) := by decide +kernel
theorem dX2_keyAdded_51 : decode cX2_keyAdded 51 = .ok (.aload_n 0, 1) := by decide +kernel
theorem dX2_keyAdded_52 : decode cX2_keyAdded 52 = .ok (.getfield 19, 3) := by decide +kernel
theorem dX2_keyAdded_55 : decode cX2_keyAdded 55 = .ok (.iload_n 3, 1) := by decide +kernel
theorem dX2_keyAdded_56 : decode cX2_keyAdded 56 = .ok (.if_icmp .ge 11, 3) := by decide +kernel
theorem dX2_keyAdded_59 : decode cX2_keyAdded 59 = .ok (.iload 4, 2) := by decide +kernel
theorem dX2_keyAdded_61 : decode cX2_keyAdded 61 = .ok (.istore_n 2, 1) := by decide +kernel
theorem dX2_keyAdded_62 : decode cX2_keyAdded 62 = .ok (.aload_n 0, 1) := by decide +kernel
theorem dX2_keyAdded_63 : decode cX2_keyAdded 63 = .ok (.getfield 19, 3) := by decide +kernel
theorem dX2_keyAdded_66 : decode cX2_keyAdded 66 = .ok (.istore_n 3, 1) := by decide +kernel
theorem dX2_keyAdded_67 : decode cX2_keyAdded 67 = .ok (.iinc 4 1, 3) := by decide +kernel
theorem dX2_keyAdded_70 : decode cX2_keyAdded 70 = .ok (.goto (-58), 3) := by decide +kernel
theorem dX2_keyAdded_73 : decode cX2_keyAdded 73 = .ok (.aload_n 0, 1) := by decide +kernel
theorem dX2_keyAdded_74 : decode cX2_keyAdded 74 = .ok (.iload_n 3, 1) := by decide +kernel
theorem dX2_keyAdded_75 : decode cX2_keyAdded 75 = .ok (.putfield 19, 3) := by decide +kernel
theorem dX2_keyAdded_78 : decode cX2_keyAdded 78 = .ok (.iload_n 2, 1) := by decide +kernel
theorem dX2_keyAdded_79 : decode cX2_keyAdded 79 = .ok (.ireturn, 1) := by decide +kernel
set_option maxRecDepth 20000 in
theorem ggX2_keyBentLater_X2_scaleMeant : GoodIn wsX2_keyBentLater wsX2_scaleMeant := goodIn_r _ [15, 16, 6, 17, 18, 19, 14, 20, 21, 22, 23, 24, 25, 26, 27, 28, 29, 1, 2, 3, 4, 5, 7, 8, 9, 10, 30, 31, 32, 33, 34, 35, 36, 37, 38, 39, 40, 41, 42, 43, 44, 45, 46, 47, 48] (by decide +kernel) (by decide +kernel)
set_option maxRecDepth 20000 in
theorem gX2_keyBentLater_X2_scaleMeant : GoodIn wsX2_keyBentLater (wsV RX2 60 RX2 yX2_scaleMeant wsX2_scaleMeant) := goodIn_app (goodIn_of _ (by decide +kernel)) ggX2_keyBentLater_X2_scaleMeant
set_option maxRecDepth 20000 in
theorem ggX2_keyBentLater_X3_goalAt : GoodIn wsX2_keyBentLater wsX3_goalAt := goodIn_r _ [34, 35, 36, 47, 48] (by decide +kernel) (by decide +kernel)
set_option maxRecDepth 20000 in
theorem gX2_keyBentLater_X3_goalAt : GoodIn wsX2_keyBentLater (wsV RX2 36 RX3 yX3_goalAt wsX3_goalAt) := goodIn_app (goodIn_of _ (by decide +kernel)) ggX2_keyBentLater_X3_goalAt
theorem dX2_keyBentLater_0 : decode cX2_keyBentLater 0 = .ok (.aload_n 0, 1) := by decide +kernel
theorem dX2_keyBentLater_1 : decode cX2_keyBentLater 1 = .ok (.invokevirtual 60, 3) := by decide +kernel
theorem dX2_keyBentLater_4 : decode cX2_keyBentLater 4 = .ok (.istore_n 3, 1) := by decide +kernel
theorem dX2_keyBentLater_5 : decode cX2_keyBentLater 5 = .ok (.iconst 0, 1) := by decide +kernel
theorem dX2_keyBentLater_6 : decode cX2_keyBentLater 6 = .ok (.istore 4, 2) := by decide +kernel
theorem dX2_keyBentLater_8 : decode cX2_keyBentLater 8 = .ok (.iconst 0, 1) := by decide +kernel
theorem dX2_keyBentLater_9 : decode cX2_keyBentLater 9 = .ok (.istore 5, 2) := by decide +kernel
theorem dX2_keyBentLater_11 : decode cX2_keyBentLater 11 = .ok (.iload 5, 2) := by decide +kernel
theorem dX2_keyBentLater_13 : decode cX2_keyBentLater 13 = .ok (.aload_n 0, 1) := by decide +kernel
theorem dX2_keyBentLater_14 : decode cX2_keyBentLater 14 = .ok (.getfield 22, 3) := by decide +kernel
theorem dX2_keyBentLater_17 : decode cX2_keyBentLater 17 = .ok (.getfield 31, 3) := by decide +kernel
theorem dX2_keyBentLater_20 : decode cX2_keyBentLater 20 = .ok (.if_icmp .ge 68, 3) := by decide +kernel
theorem dX2_keyBentLater_23 : decode cX2_keyBentLater 23 = .ok (.aload_n 0, 1) := by decide +kernel
theorem dX2_keyBentLater_24 : decode cX2_keyBentLater 24 = .ok (.getfield 9, 3) := by decide +kernel
theorem dX2_keyBentLater_27 : decode cX2_keyBentLater 27 = .ok (.iload 5, 2) := by decide +kernel
theorem dX2_keyBentLater_29 : decode cX2_keyBentLater 29 = .ok (.iaload, 1) := by decide +kernel
theorem dX2_keyBentLater_30 : decode cX2_keyBentLater 30 = .ok (.ldc 30, 2) := by decide +kernel
theorem dX2_keyBentLater_32 : decode cX2_keyBentLater 32 = .ok (.if_icmp .ne 6, 3) := by decide +kernel
theorem dX2_keyBentLater_35 : decode cX2_keyBentLater 35 = .ok (.goto 47, 3) := by decide +kernel
theorem dX2_keyBentLater_38 : decode cX2_keyBentLater 38 = .ok (.aload_n 0, 1) := by decide +kernel
theorem dX2_keyBentLater_39 : decode cX2_keyBentLater 39 = .ok (.getfield 26, 3) := by decide +kernel
theorem dX2_keyBentLater_42 : decode cX2_keyBentLater 42 = .ok (.iload_n 3, 1) := by decide +kernel
theorem dX2_keyBentLater_43 : decode cX2_keyBentLater 43 = .ok (.aload_n 0, 1) := by decide +kernel
theorem dX2_keyBentLater_44 : decode cX2_keyBentLater 44 = .ok (.getfield 15, 3) := by decide +kernel
theorem dX2_keyBentLater_47 : decode cX2_keyBentLater 47 = .ok (.iload 5, 2) := by decide +kernel
theorem dX2_keyBentLater_49 : decode cX2_keyBentLater 49 = .ok (.invokevirtual 36, 3) := by decide +kernel
theorem dX2_keyBentLater_52 : decode cX2_keyBentLater 52 = .ok (.aload_n 0, 1) := by decide +kernel
theorem dX2_keyBentLater_53 : decode cX2_keyBentLater 53 = .ok (.getfield 9, 3) := by decide +kernel
theorem dX2_keyBentLater_56 : decode cX2_keyBentLater 56 = .ok (.iload 5, 2) := by decide +kernel
theorem dX2_keyBentLater_58 : decode cX2_keyBentLater 58 = .ok (.iaload, 1) := by decide +kernel
theorem dX2_keyBentLater_59 : decode cX2_keyBentLater 59 = .ok (.isub, 1) := by decide +kernel
theorem dX2_keyBentLater_60 : decode cX2_keyBentLater 60 = .ok (.invokestatic 42, 3) := by decide +kernel
theorem dX2_keyBentLater_63 : decode cX2_keyBentLater 63 = .ok (.iload_n 1, 1) := by decide +kernel
theorem dX2_keyBentLater_64 : decode cX2_keyBentLater 64 = .ok (.if_icmp .gt 6, 3) := by decide +kernel
theorem dX2_keyBentLater_67 : decode cX2_keyBentLater 67 = .ok (.goto 15, 3) := by decide +kernel
theorem dX2_keyBentLater_70 : decode cX2_keyBentLater 70 = .ok (.iload 4, 2) := by decide +kernel
theorem dX2_keyBentLater_72 : decode cX2_keyBentLater 72 = .ok (.iload_n 2, 1) := by decide +kernel
theorem dX2_keyBentLater_73 : decode cX2_keyBentLater 73 = .ok (.if_icmp .ne 6, 3) := by decide +kernel
theorem dX2_keyBentLater_76 : decode cX2_keyBentLater 76 = .ok (.iload 5, 2) := by decide +kernel
theorem dX2_keyBentLater_78 : decode cX2_keyBentLater 78 = .ok (.ireturn, 1) := by decide +kernel
theorem dX2_keyBentLater_79 : decode cX2_keyBentLater 79 = .ok (.iinc 4 1, 3) := by decide +kernel
theorem dX2_keyBentLater_82 : decode cX2_keyBentLater 82 = .ok (.iinc 5 1, 3) := by decide +kernel
theorem dX2_keyBentLater_85 : decode cX2_keyBentLater 85 = .ok (.goto (-74), 3) := by decide +kernel
theorem dX2_keyBentLater_88 : decode cX2_keyBentLater 88 = .ok (.ldc 30, 2) := by decide +kernel
theorem dX2_keyBentLater_90 : decode cX2_keyBentLater 90 = .ok (.ireturn, 1) := by decide +kernel
theorem dX3_init_0 : decode cX3_init 0 = .ok (.aload_n 0, 1) := by decide +kernel
theorem dX3_init_1 : decode cX3_init 1 = .ok (.invokespecial 3, 3) := by decide +kernel
theorem dX3_init_4 : decode cX3_init 4 = .ok (.aload_n 0, 1) := by decide +kernel
theorem dX3_init_5 : decode cX3_init 5 = .ok (.bipush 60, 2) := by decide +kernel
theorem dX3_init_7 : decode cX3_init 7 = .ok (.newarray .int, 2) := by decide +kernel
theorem dX3_init_9 : decode cX3_init 9 = .ok (.putfield 9, 3) := by decide +kernel
theorem dX3_init_12 : decode cX3_init 12 = .ok (.aload_n 0, 1) := by decide +kernel
theorem dX3_init_13 : decode cX3_init 13 = .ok (.bipush 60, 2) := by decide +kernel
theorem dX3_init_15 : decode cX3_init 15 = .ok (.newarray .int, 2) := by decide +kernel
theorem dX3_init_17 : decode cX3_init 17 = .ok (.putfield 15, 3) := by decide +kernel
theorem dX3_init_20 : decode cX3_init 20 = .ok (.iconst 0, 1) := by decide +kernel
theorem dX3_init_21 : decode cX3_init 21 = .ok (.istore_n 1, 1) := by decide +kernel
theorem dX3_init_22 : decode cX3_init 22 = .ok (.iload_n 1, 1) := by decide +kernel
theorem dX3_init_23 : decode cX3_init 23 = .ok (.bipush 60, 2) := by decide +kernel
theorem dX3_init_25 : decode cX3_init 25 = .ok (.if_icmp .ge 23, 3) := by decide +kernel
theorem dX3_init_28 : decode cX3_init 28 = .ok (.aload_n 0, 1) := by decide +kernel
theorem dX3_init_29 : decode cX3_init 29 = .ok (.getfield 9, 3) := by decide +kernel
theorem dX3_init_32 : decode cX3_init 32 = .ok (.iload_n 1, 1) := by decide +kernel
theorem dX3_init_33 : decode cX3_init 33 = .ok (.iconst 1, 1) := by decide +kernel
theorem dX3_init_34 : decode cX3_init 34 = .ok (.iastore, 1) := by decide +kernel
theorem dX3_init_35 : decode cX3_init 35 = .ok (.aload_n 0, 1) := by decide +kernel
theorem dX3_init_36 : decode cX3_init 36 = .ok (.getfield 15, 3) := by decide +kernel
theorem dX3_init_39 : decode cX3_init 39 = .ok (.iload_n 1, 1) := by decide +kernel
theorem dX3_init_40 : decode cX3_init 40 = .ok (.iconst 1, 1) := by decide +kernel
theorem dX3_init_41 : decode cX3_init 41 = .ok (.iastore, 1) := by decide +kernel
theorem dX3_init_42 : decode cX3_init 42 = .ok (.iinc 1 1, 3) := by decide +kernel
theorem dX3_init_45 : decode cX3_init 45 = .ok (.goto (-23), 3) := by decide +kernel
theorem dX3_init_48 : decode cX3_init 48 = .ok (.return_, 1) := by decide +kernel
theorem dX3_put_0 : decode cX3_put 0 = .ok (.aload_n 0, 1) := by decide +kernel
theorem dX3_put_1 : decode cX3_put 1 = .ok (.getfield 9, 3) := by decide +kernel
theorem dX3_put_4 : decode cX3_put 4 = .ok (.iload_n 1, 1) := by decide +kernel
theorem dX3_put_5 : decode cX3_put 5 = .ok (.bipush 12, 2) := by decide +kernel
theorem dX3_put_7 : decode cX3_put 7 = .ok (.imul, 1) := by decide +kernel
theorem dX3_put_8 : decode cX3_put 8 = .ok (.iload_n 2, 1) := by decide +kernel
theorem dX3_put_9 : decode cX3_put 9 = .ok (.iadd, 1) := by decide +kernel
theorem dX3_put_10 : decode cX3_put 10 = .ok (.iload_n 3, 1) := by decide +kernel
theorem dX3_put_11 : decode cX3_put 11 = .ok (.iastore, 1) := by decide +kernel
theorem dX3_put_12 : decode cX3_put 12 = .ok (.aload_n 0, 1) := by decide +kernel
theorem dX3_put_13 : decode cX3_put 13 = .ok (.getfield 15, 3) := by decide +kernel
theorem dX3_put_16 : decode cX3_put 16 = .ok (.iload_n 1, 1) := by decide +kernel
theorem dX3_put_17 : decode cX3_put 17 = .ok (.bipush 12, 2) := by decide +kernel
theorem dX3_put_19 : decode cX3_put 19 = .ok (.imul, 1) := by decide +kernel
theorem dX3_put_20 : decode cX3_put 20 = .ok (.iload_n 2, 1) := by decide +kernel
theorem dX3_put_21 : decode cX3_put 21 = .ok (.iadd, 1) := by decide +kernel
theorem dX3_put_22 : decode cX3_put 22 = .ok (.iload 4, 2) := by decide +kernel
theorem dX3_put_24 : decode cX3_put 24 = .ok (.iastore, 1) := by decide +kernel
theorem dX3_put_25 : decode cX3_put 25 = .ok (.return_, 1) := by decide +kernel
theorem dX3_partOf_0 : decode cX3_partOf 0 = .ok (.iload_n 1, 1) := by decide +kernel
theorem dX3_partOf_1 : decode cX3_partOf 1 = .ok (.bipush 12, 2) := by decide +kernel
theorem dX3_partOf_3 : decode cX3_partOf 3 = .ok (.imul, 1) := by decide +kernel
theorem dX3_partOf_4 : decode cX3_partOf 4 = .ok (.iload_n 2, 1) := by decide +kernel
theorem dX3_partOf_5 : decode cX3_partOf 5 = .ok (.iadd, 1) := by decide +kernel
theorem dX3_partOf_6 : decode cX3_partOf 6 = .ok (.istore 4, 2) := by decide +kernel
theorem dX3_partOf_8 : decode cX3_partOf 8 = .ok (.iload_n 3, 1) := by decide +kernel
theorem dX3_partOf_9 : decode cX3_partOf 9 = .ok (.ifCond .eq 13, 3) := by decide +kernel
theorem dX3_partOf_12 : decode cX3_partOf 12 = .ok (.aload_n 0, 1) := by decide +kernel
theorem dX3_partOf_13 : decode cX3_partOf 13 = .ok (.getfield 9, 3) := by decide +kernel
theorem dX3_partOf_16 : decode cX3_partOf 16 = .ok (.iload 4, 2) := by decide +kernel
theorem dX3_partOf_18 : decode cX3_partOf 18 = .ok (.iaload, 1) := by decide +kernel
theorem dX3_partOf_19 : decode cX3_partOf 19 = .ok (.goto 10, 3) := by decide +kernel
theorem dX3_partOf_22 : decode cX3_partOf 22 = .ok (.aload_n 0, 1) := by decide +kernel
theorem dX3_partOf_23 : decode cX3_partOf 23 = .ok (.getfield 15, 3) := by decide +kernel
theorem dX3_partOf_26 : decode cX3_partOf 26 = .ok (.iload 4, 2) := by decide +kernel
theorem dX3_partOf_28 : decode cX3_partOf 28 = .ok (.iaload, 1) := by decide +kernel
theorem dX3_partOf_29 : decode cX3_partOf 29 = .ok (.ireturn, 1) := by decide +kernel
theorem dX3_goalAt_0 : decode cX3_goalAt 0 = .ok (.iload_n 1, 1) := by decide +kernel
theorem dX3_goalAt_1 : decode cX3_goalAt 1 = .ok (.bipush 12, 2) := by decide +kernel
theorem dX3_goalAt_3 : decode cX3_goalAt 3 = .ok (.imul, 1) := by decide +kernel
theorem dX3_goalAt_4 : decode cX3_goalAt 4 = .ok (.iload_n 3, 1) := by decide +kernel
theorem dX3_goalAt_5 : decode cX3_goalAt 5 = .ok (.bipush 12, 2) := by decide +kernel
theorem dX3_goalAt_7 : decode cX3_goalAt 7 = .ok (.irem, 1) := by decide +kernel
theorem dX3_goalAt_8 : decode cX3_goalAt 8 = .ok (.iadd, 1) := by decide +kernel
theorem dX3_goalAt_9 : decode cX3_goalAt 9 = .ok (.istore 4, 2) := by decide +kernel
theorem dX3_goalAt_11 : decode cX3_goalAt 11 = .ok (.iload_n 2, 1) := by decide +kernel
theorem dX3_goalAt_12 : decode cX3_goalAt 12 = .ok (.iload_n 3, 1) := by decide +kernel
theorem dX3_goalAt_13 : decode cX3_goalAt 13 = .ok (.bipush 12, 2) := by decide +kernel
theorem dX3_goalAt_15 : decode cX3_goalAt 15 = .ok (.idiv, 1) := by decide +kernel
theorem dX3_goalAt_16 : decode cX3_goalAt 16 = .ok (.ishl, 1) := by decide +kernel
theorem dX3_goalAt_17 : decode cX3_goalAt 17 = .ok (.istore 5, 2) := by decide +kernel
theorem dX3_goalAt_19 : decode cX3_goalAt 19 = .ok (.aload_n 0, 1) := by decide +kernel
theorem dX3_goalAt_20 : decode cX3_goalAt 20 = .ok (.getfield 15, 3) := by decide +kernel
theorem dX3_goalAt_23 : decode cX3_goalAt 23 = .ok (.iload 4, 2) := by decide +kernel
theorem dX3_goalAt_25 : decode cX3_goalAt 25 = .ok (.iaload, 1) := by decide +kernel
theorem dX3_goalAt_26 : decode cX3_goalAt 26 = .ok (.istore 6, 2) := by decide +kernel
theorem dX3_goalAt_28 : decode cX3_goalAt 28 = .ok (.iload 6, 2) := by decide +kernel
theorem dX3_goalAt_30 : decode cX3_goalAt 30 = .ok (.iconst 1, 1) := by decide +kernel
theorem dX3_goalAt_31 : decode cX3_goalAt 31 = .ok (.if_icmp .ge 7, 3) := by decide +kernel
theorem dX3_goalAt_34 : decode cX3_goalAt 34 = .ok (.iconst 0, 1) := by decide +kernel
theorem dX3_goalAt_35 : decode cX3_goalAt 35 = .ok (.goto 16, 3) := by decide +kernel
theorem dX3_goalAt_38 : decode cX3_goalAt 38 = .ok (.iload 5, 2) := by decide +kernel
theorem dX3_goalAt_40 : decode cX3_goalAt 40 = .ok (.aload_n 0, 1) := by decide +kernel
theorem dX3_goalAt_41 : decode cX3_goalAt 41 = .ok (.getfield 9, 3) := by decide +kernel
theorem dX3_goalAt_44 : decode cX3_goalAt 44 = .ok (.iload 4, 2) := by decide +kernel
theorem dX3_goalAt_46 : decode cX3_goalAt 46 = .ok (.iaload, 1) := by decide +kernel
theorem dX3_goalAt_47 : decode cX3_goalAt 47 = .ok (.imul, 1) := by decide +kernel
theorem dX3_goalAt_48 : decode cX3_goalAt 48 = .ok (.iload 6, 2) := by decide +kernel
theorem dX3_goalAt_50 : decode cX3_goalAt 50 = .ok (.idiv, 1) := by decide +kernel
theorem dX3_goalAt_51 : decode cX3_goalAt 51 = .ok (.ireturn, 1) := by decide +kernel
theorem dX4_init_0 : decode cX4_init 0 = .ok (.aload_n 0, 1) := by decide +kernel
theorem dX4_init_1 : decode cX4_init 1 = .ok (.invokespecial 3, 3) := by decide +kernel
theorem dX4_init_4 : decode cX4_init 4 = .ok (.aload_n 0, 1) := by decide +kernel
theorem dX4_init_5 : decode cX4_init 5 = .ok (.sipush 576, 3) := by decide +kernel
theorem dX4_init_8 : decode cX4_init 8 = .ok (.newarray .int, 2) := by decide +kernel
theorem dX4_init_10 : decode cX4_init 10 = .ok (.putfield 9, 3) := by decide +kernel
theorem dX4_init_13 : decode cX4_init 13 = .ok (.aload_n 0, 1) := by decide +kernel
theorem dX4_init_14 : decode cX4_init 14 = .ok (.sipush 625, 3) := by decide +kernel
theorem dX4_init_17 : decode cX4_init 17 = .ok (.newarray .int, 2) := by decide +kernel
theorem dX4_init_19 : decode cX4_init 19 = .ok (.putfield 15, 3) := by decide +kernel
theorem dX4_init_22 : decode cX4_init 22 = .ok (.aload_n 0, 1) := by decide +kernel
theorem dX4_init_23 : decode cX4_init 23 = .ok (.bipush 24, 2) := by decide +kernel
theorem dX4_init_25 : decode cX4_init 25 = .ok (.newarray .int, 2) := by decide +kernel
theorem dX4_init_27 : decode cX4_init 27 = .ok (.putfield 18, 3) := by decide +kernel
theorem dX4_init_30 : decode cX4_init 30 = .ok (.aload_n 0, 1) := by decide +kernel
theorem dX4_init_31 : decode cX4_init 31 = .ok (.iconst 0, 1) := by decide +kernel
theorem dX4_init_32 : decode cX4_init 32 = .ok (.putfield 21, 3) := by decide +kernel
theorem dX4_init_35 : decode cX4_init 35 = .ok (.aload_n 0, 1) := by decide +kernel
theorem dX4_init_36 : decode cX4_init 36 = .ok (.iconst 0, 1) := by decide +kernel
theorem dX4_init_37 : decode cX4_init 37 = .ok (.putfield 25, 3) := by decide +kernel
theorem dX4_init_40 : decode cX4_init 40 = .ok (.return_, 1) := by decide +kernel
set_option maxRecDepth 20000 in
theorem ggX4_gather_X4_gatherPiece : GoodIn wsX4_gather wsX4_gatherPiece := goodIn_r _ [6, 7, 8, 9, 10, 11, 12, 13, 14, 15, 16, 17, 18, 19, 20, 21, 22, 23, 24, 25, 26, 27, 28, 29, 30, 5, 31, 1, 32, 33, 34, 35, 36, 37, 38, 44, 45, 46, 47, 48, 39, 40, 41, 42, 43] (by decide +kernel) (by decide +kernel)
set_option maxRecDepth 20000 in
theorem gX4_gather_X4_gatherPiece : GoodIn wsX4_gather (wsV RX4 28 RX4 yX4_gatherPiece wsX4_gatherPiece) := goodIn_app (goodIn_of _ (by decide +kernel)) ggX4_gather_X4_gatherPiece
theorem dX4_gather_0 : decode cX4_gather 0 = .ok (.iconst 0, 1) := by decide +kernel
theorem dX4_gather_1 : decode cX4_gather 1 = .ok (.istore_n 3, 1) := by decide +kernel
theorem dX4_gather_2 : decode cX4_gather 2 = .ok (.iload_n 3, 1) := by decide +kernel
theorem dX4_gather_3 : decode cX4_gather 3 = .ok (.sipush 576, 3) := by decide +kernel
theorem dX4_gather_6 : decode cX4_gather 6 = .ok (.if_icmp .ge 16, 3) := by decide +kernel
theorem dX4_gather_9 : decode cX4_gather 9 = .ok (.aload_n 0, 1) := by decide +kernel
theorem dX4_gather_10 : decode cX4_gather 10 = .ok (.getfield 9, 3) := by decide +kernel
theorem dX4_gather_13 : decode cX4_gather 13 = .ok (.iload_n 3, 1) := by decide +kernel
theorem dX4_gather_14 : decode cX4_gather 14 = .ok (.iconst 0, 1) := by decide +kernel
theorem dX4_gather_15 : decode cX4_gather 15 = .ok (.iastore, 1) := by decide +kernel
theorem dX4_gather_16 : decode cX4_gather 16 = .ok (.iinc 3 1, 3) := by decide +kernel
theorem dX4_gather_19 : decode cX4_gather 19 = .ok (.goto (-17), 3) := by decide +kernel
theorem dX4_gather_22 : decode cX4_gather 22 = .ok (.iconst 0, 1) := by decide +kernel
theorem dX4_gather_23 : decode cX4_gather 23 = .ok (.istore_n 3, 1) := by decide +kernel
theorem dX4_gather_24 : decode cX4_gather 24 = .ok (.iload_n 3, 1) := by decide +kernel
theorem dX4_gather_25 : decode cX4_gather 25 = .ok (.iconst 4, 1) := by decide +kernel
theorem dX4_gather_26 : decode cX4_gather 26 = .ok (.if_icmp .ge 24, 3) := by decide +kernel
theorem dX4_gather_29 : decode cX4_gather 29 = .ok (.iload_n 2, 1) := by decide +kernel
theorem dX4_gather_30 : decode cX4_gather 30 = .ok (.iload_n 3, 1) := by decide +kernel
theorem dX4_gather_31 : decode cX4_gather 31 = .ok (.ishr, 1) := by decide +kernel
theorem dX4_gather_32 : decode cX4_gather 32 = .ok (.iconst 1, 1) := by decide +kernel
theorem dX4_gather_33 : decode cX4_gather 33 = .ok (.iand, 1) := by decide +kernel
theorem dX4_gather_34 : decode cX4_gather 34 = .ok (.iconst 1, 1) := by decide +kernel
theorem dX4_gather_35 : decode cX4_gather 35 = .ok (.if_icmp .ne 9, 3) := by decide +kernel
theorem dX4_gather_38 : decode cX4_gather 38 = .ok (.aload_n 0, 1) := by decide +kernel
theorem dX4_gather_39 : decode cX4_gather 39 = .ok (.aload_n 1, 1) := by decide +kernel
theorem dX4_gather_40 : decode cX4_gather 40 = .ok (.iload_n 3, 1) := by decide +kernel
theorem dX4_gather_41 : decode cX4_gather 41 = .ok (.invokevirtual 28, 3) := by decide +kernel
theorem dX4_gather_44 : decode cX4_gather 44 = .ok (.iinc 3 1, 3) := by decide +kernel
theorem dX4_gather_47 : decode cX4_gather 47 = .ok (.goto (-23), 3) := by decide +kernel
theorem dX4_gather_50 : decode cX4_gather 50 = .ok (.return_, 1) := by decide +kernel
set_option maxRecDepth 20000 in
theorem ggX4_gatherPiece_X1_startOf : GoodIn wsX4_gatherPiece wsX1_startOf := goodIn_r _ [6] (by decide +kernel) (by decide +kernel)
set_option maxRecDepth 20000 in
theorem gX4_gatherPiece_X1_startOf : GoodIn wsX4_gatherPiece (wsV RX4 32 RX1 yX1_startOf wsX1_startOf) := goodIn_app (goodIn_of _ (by decide +kernel)) ggX4_gatherPiece_X1_startOf
set_option maxRecDepth 20000 in
theorem ggX4_gatherPiece_X1_endOf : GoodIn wsX4_gatherPiece wsX1_endOf := goodIn_r _ [10, 11, 35, 36, 37, 38, 39] (by decide +kernel) (by decide +kernel)
set_option maxRecDepth 20000 in
theorem gX4_gatherPiece_X1_endOf : GoodIn wsX4_gatherPiece (wsV RX4 38 RX1 yX1_endOf wsX1_endOf) := goodIn_app (goodIn_of _ (by decide +kernel)) ggX4_gatherPiece_X1_endOf
set_option maxRecDepth 20000 in
theorem ggX4_gatherPiece_X1_soundAtOnce : GoodIn wsX4_gatherPiece wsX1_soundAtOnce := goodIn_r _ [15, 16, 17, 18, 19, 5, 20, 21, 35, 36, 37, 38, 39] (by decide +kernel) (by decide +kernel)
set_option maxRecDepth 20000 in
theorem gX4_gatherPiece_X1_soundAtOnce : GoodIn wsX4_gatherPiece (wsV RX4 41 RX1 yX1_soundAtOnce wsX1_soundAtOnce) := goodIn_app (goodIn_of _ (by decide +kernel)) ggX4_gatherPiece_X1_soundAtOnce
set_option maxRecDepth 20000 in
theorem ggX4_gatherPiece_X4_addPair : GoodIn wsX4_gatherPiece wsX4_addPair := goodIn_r _ [26, 27, 28, 29, 30, 31, 32, 33, 34, 40, 41, 42, 43, 44] (by decide +kernel) (by decide +kernel)
set_option maxRecDepth 20000 in
theorem gX4_gatherPiece_X4_addPair : GoodIn wsX4_gatherPiece (wsV RX4 48 RX4 yX4_addPair wsX4_addPair) := goodIn_app (goodIn_of _ (by decide +kernel)) ggX4_gatherPiece_X4_addPair
theorem dX4_gatherPiece_0 : decode cX4_gatherPiece 0 = .ok (.aload_n 1, 1) := by decide +kernel
theorem dX4_gatherPiece_1 : decode cX4_gatherPiece 1 = .ok (.iload_n 2, 1) := by decide +kernel
theorem dX4_gatherPiece_2 : decode cX4_gatherPiece 2 = .ok (.invokevirtual 32, 3) := by decide +kernel
theorem dX4_gatherPiece_5 : decode cX4_gatherPiece 5 = .ok (.istore_n 3, 1) := by decide +kernel
theorem dX4_gatherPiece_6 : decode cX4_gatherPiece 6 = .ok (.iload_n 3, 1) := by decide +kernel
theorem dX4_gatherPiece_7 : decode cX4_gatherPiece 7 = .ok (.aload_n 1, 1) := by decide +kernel
theorem dX4_gatherPiece_8 : decode cX4_gatherPiece 8 = .ok (.iload_n 2, 1) := by decide +kernel
theorem dX4_gatherPiece_9 : decode cX4_gatherPiece 9 = .ok (.invokevirtual 38, 3) := by decide +kernel
theorem dX4_gatherPiece_12 : decode cX4_gatherPiece 12 = .ok (.if_icmp .ge 55, 3) := by decide +kernel
theorem dX4_gatherPiece_15 : decode cX4_gatherPiece 15 = .ok (.aload_n 1, 1) := by decide +kernel
theorem dX4_gatherPiece_16 : decode cX4_gatherPiece 16 = .ok (.iload_n 2, 1) := by decide +kernel
theorem dX4_gatherPiece_17 : decode cX4_gatherPiece 17 = .ok (.invokevirtual 32, 3) := by decide +kernel
theorem dX4_gatherPiece_20 : decode cX4_gatherPiece 20 = .ok (.istore 4, 2) := by decide +kernel
theorem dX4_gatherPiece_22 : decode cX4_gatherPiece 22 = .ok (.iload 4, 2) := by decide +kernel
theorem dX4_gatherPiece_24 : decode cX4_gatherPiece 24 = .ok (.iload_n 3, 1) := by decide +kernel
theorem dX4_gatherPiece_25 : decode cX4_gatherPiece 25 = .ok (.if_icmp .ge 36, 3) := by decide +kernel
theorem dX4_gatherPiece_28 : decode cX4_gatherPiece 28 = .ok (.aload_n 1, 1) := by decide +kernel
theorem dX4_gatherPiece_29 : decode cX4_gatherPiece 29 = .ok (.iload 4, 2) := by decide +kernel
theorem dX4_gatherPiece_31 : decode cX4_gatherPiece 31 = .ok (.iload_n 3, 1) := by decide +kernel
theorem dX4_gatherPiece_32 : decode cX4_gatherPiece 32 = .ok (.invokevirtual 41, 3) := by decide +kernel
theorem dX4_gatherPiece_35 : decode cX4_gatherPiece 35 = .ok (.ifCond .eq 20, 3) := by decide +kernel
theorem dX4_gatherPiece_38 : decode cX4_gatherPiece 38 = .ok (.aload_n 0, 1) := by decide +kernel
theorem dX4_gatherPiece_39 : decode cX4_gatherPiece 39 = .ok (.aload_n 1, 1) := by decide +kernel
theorem dX4_gatherPiece_40 : decode cX4_gatherPiece 40 = .ok (.getfield 45, 3) := by decide +kernel
theorem dX4_gatherPiece_43 : decode cX4_gatherPiece 43 = .ok (.iload 4, 2) := by decide +kernel
theorem dX4_gatherPiece_45 : decode cX4_gatherPiece 45 = .ok (.iaload, 1) := by decide +kernel
theorem dX4_gatherPiece_46 : decode cX4_gatherPiece 46 = .ok (.aload_n 1, 1) := by decide +kernel
theorem dX4_gatherPiece_47 : decode cX4_gatherPiece 47 = .ok (.getfield 45, 3) := by decide +kernel
theorem dX4_gatherPiece_50 : decode cX4_gatherPiece 50 = .ok (.iload_n 3, 1) := by decide +kernel
theorem dX4_gatherPiece_51 : decode cX4_gatherPiece 51 = .ok (.iaload, 1) := by decide +kernel
theorem dX4_gatherPiece_52 : decode cX4_gatherPiece 52 = .ok (.invokevirtual 48, 3) := by decide +kernel
theorem dX4_gatherPiece_55 : decode cX4_gatherPiece 55 = .ok (.iinc 4 1, 3) := by decide +kernel
theorem dX4_gatherPiece_58 : decode cX4_gatherPiece 58 = .ok (.goto (-36), 3) := by decide +kernel
theorem dX4_gatherPiece_61 : decode cX4_gatherPiece 61 = .ok (.iinc 3 1, 3) := by decide +kernel
theorem dX4_gatherPiece_64 : decode cX4_gatherPiece 64 = .ok (.goto (-58), 3) := by decide +kernel
theorem dX4_gatherPiece_67 : decode cX4_gatherPiece 67 = .ok (.return_, 1) := by decide +kernel
theorem dX4_addPair_0 : decode cX4_addPair 0 = .ok (.iload_n 1, 1) := by decide +kernel
theorem dX4_addPair_1 : decode cX4_addPair 1 = .ok (.iload_n 2, 1) := by decide +kernel
theorem dX4_addPair_2 : decode cX4_addPair 2 = .ok (.if_icmp .eq 26, 3) := by decide +kernel
theorem dX4_addPair_5 : decode cX4_addPair 5 = .ok (.aload_n 0, 1) := by decide +kernel
theorem dX4_addPair_6 : decode cX4_addPair 6 = .ok (.getfield 9, 3) := by decide +kernel
theorem dX4_addPair_9 : decode cX4_addPair 9 = .ok (.iload_n 1, 1) := by decide +kernel
theorem dX4_addPair_10 : decode cX4_addPair 10 = .ok (.iload_n 2, 1) := by decide +kernel
theorem dX4_addPair_11 : decode cX4_addPair 11 = .ok (.invokestatic 52, 3) := by decide +kernel
theorem dX4_addPair_14 : decode cX4_addPair 14 = .ok (.bipush 24, 2) := by decide +kernel
theorem dX4_addPair_16 : decode cX4_addPair 16 = .ok (.imul, 1) := by decide +kernel
theorem dX4_addPair_17 : decode cX4_addPair 17 = .ok (.iload_n 1, 1) := by decide +kernel
theorem dX4_addPair_18 : decode cX4_addPair 18 = .ok (.iload_n 2, 1) := by decide +kernel
theorem dX4_addPair_19 : decode cX4_addPair 19 = .ok (.invokestatic 58, 3) := by decide +kernel
theorem dX4_addPair_22 : decode cX4_addPair 22 = .ok (.iadd, 1) := by decide +kernel
theorem dX4_addPair_23 : decode cX4_addPair 23 = .ok (.dup2, 1) := by decide +kernel
theorem dX4_addPair_24 : decode cX4_addPair 24 = .ok (.iaload, 1) := by decide +kernel
theorem dX4_addPair_25 : decode cX4_addPair 25 = .ok (.iconst 1, 1) := by decide +kernel
theorem dX4_addPair_26 : decode cX4_addPair 26 = .ok (.iadd, 1) := by decide +kernel
theorem dX4_addPair_27 : decode cX4_addPair 27 = .ok (.iastore, 1) := by decide +kernel
theorem dX4_addPair_28 : decode cX4_addPair 28 = .ok (.return_, 1) := by decide +kernel
set_option maxRecDepth 20000 in
theorem ggX4_clashesOf_X4_clashesBelow : GoodIn wsX4_clashesOf wsX4_clashesBelow := goodIn_r _ [5, 6, 7, 8, 9, 10, 11] (by decide +kernel) (by decide +kernel)
set_option maxRecDepth 20000 in
theorem gX4_clashesOf_X4_clashesBelow : GoodIn wsX4_clashesOf (wsV RX4 61 RX4 yX4_clashesBelow wsX4_clashesBelow) := goodIn_app (goodIn_of _ (by decide +kernel)) ggX4_clashesOf_X4_clashesBelow
theorem dX4_clashesOf_0 : decode cX4_clashesOf 0 = .ok (.iconst 0, 1) := by decide +kernel
theorem dX4_clashesOf_1 : decode cX4_clashesOf 1 = .ok (.istore_n 3, 1) := by decide +kernel
theorem dX4_clashesOf_2 : decode cX4_clashesOf 2 = .ok (.iload_n 1, 1) := by decide +kernel
theorem dX4_clashesOf_3 : decode cX4_clashesOf 3 = .ok (.iconst 1, 1) := by decide +kernel
theorem dX4_clashesOf_4 : decode cX4_clashesOf 4 = .ok (.iadd, 1) := by decide +kernel
theorem dX4_clashesOf_5 : decode cX4_clashesOf 5 = .ok (.istore 4, 2) := by decide +kernel
theorem dX4_clashesOf_7 : decode cX4_clashesOf 7 = .ok (.iload 4, 2) := by decide +kernel
theorem dX4_clashesOf_9 : decode cX4_clashesOf 9 = .ok (.iload_n 2, 1) := by decide +kernel
theorem dX4_clashesOf_10 : decode cX4_clashesOf 10 = .ok (.if_icmp .gt 19, 3) := by decide +kernel
theorem dX4_clashesOf_13 : decode cX4_clashesOf 13 = .ok (.iload_n 3, 1) := by decide +kernel
theorem dX4_clashesOf_14 : decode cX4_clashesOf 14 = .ok (.aload_n 0, 1) := by decide +kernel
theorem dX4_clashesOf_15 : decode cX4_clashesOf 15 = .ok (.iload_n 1, 1) := by decide +kernel
theorem dX4_clashesOf_16 : decode cX4_clashesOf 16 = .ok (.iload 4, 2) := by decide +kernel
theorem dX4_clashesOf_18 : decode cX4_clashesOf 18 = .ok (.invokevirtual 61, 3) := by decide +kernel
theorem dX4_clashesOf_21 : decode cX4_clashesOf 21 = .ok (.iadd, 1) := by decide +kernel
theorem dX4_clashesOf_22 : decode cX4_clashesOf 22 = .ok (.istore_n 3, 1) := by decide +kernel
theorem dX4_clashesOf_23 : decode cX4_clashesOf 23 = .ok (.iinc 4 1, 3) := by decide +kernel
theorem dX4_clashesOf_26 : decode cX4_clashesOf 26 = .ok (.goto (-19), 3) := by decide +kernel
theorem dX4_clashesOf_29 : decode cX4_clashesOf 29 = .ok (.iload_n 3, 1) := by decide +kernel
theorem dX4_clashesOf_30 : decode cX4_clashesOf 30 = .ok (.ireturn, 1) := by decide +kernel
theorem dX4_clashesBelow_0 : decode cX4_clashesBelow 0 = .ok (.iconst 0, 1) := by decide +kernel
theorem dX4_clashesBelow_1 : decode cX4_clashesBelow 1 = .ok (.istore_n 3, 1) := by decide +kernel
theorem dX4_clashesBelow_2 : decode cX4_clashesBelow 2 = .ok (.iload_n 1, 1) := by decide +kernel
theorem dX4_clashesBelow_3 : decode cX4_clashesBelow 3 = .ok (.istore 4, 2) := by decide +kernel
theorem dX4_clashesBelow_5 : decode cX4_clashesBelow 5 = .ok (.iload 4, 2) := by decide +kernel
theorem dX4_clashesBelow_7 : decode cX4_clashesBelow 7 = .ok (.iload_n 2, 1) := by decide +kernel
theorem dX4_clashesBelow_8 : decode cX4_clashesBelow 8 = .ok (.if_icmp .ge 24, 3) := by decide +kernel
theorem dX4_clashesBelow_11 : decode cX4_clashesBelow 11 = .ok (.iload_n 3, 1) := by decide +kernel
theorem dX4_clashesBelow_12 : decode cX4_clashesBelow 12 = .ok (.aload_n 0, 1) := by decide +kernel
theorem dX4_clashesBelow_13 : decode cX4_clashesBelow 13 = .ok (.getfield 9, 3) := by decide +kernel
theorem dX4_clashesBelow_16 : decode cX4_clashesBelow 16 = .ok (.iload 4, 2) := by decide +kernel
theorem dX4_clashesBelow_18 : decode cX4_clashesBelow 18 = .ok (.bipush 24, 2) := by decide +kernel
theorem dX4_clashesBelow_20 : decode cX4_clashesBelow 20 = .ok (.imul, 1) := by decide +kernel
theorem dX4_clashesBelow_21 : decode cX4_clashesBelow 21 = .ok (.iload_n 2, 1) := by decide +kernel
theorem dX4_clashesBelow_22 : decode cX4_clashesBelow 22 = .ok (.iadd, 1) := by decide +kernel
theorem dX4_clashesBelow_23 : decode cX4_clashesBelow 23 = .ok (.iaload, 1) := by decide +kernel
theorem dX4_clashesBelow_24 : decode cX4_clashesBelow 24 = .ok (.iadd, 1) := by decide +kernel
theorem dX4_clashesBelow_25 : decode cX4_clashesBelow 25 = .ok (.istore_n 3, 1) := by decide +kernel
theorem dX4_clashesBelow_26 : decode cX4_clashesBelow 26 = .ok (.iinc 4 1, 3) := by decide +kernel
theorem dX4_clashesBelow_29 : decode cX4_clashesBelow 29 = .ok (.goto (-24), 3) := by decide +kernel
theorem dX4_clashesBelow_32 : decode cX4_clashesBelow 32 = .ok (.iload_n 3, 1) := by decide +kernel
theorem dX4_clashesBelow_33 : decode cX4_clashesBelow 33 = .ok (.ireturn, 1) := by decide +kernel
set_option maxRecDepth 20000 in
theorem ggX4_solve_X4_leastFrom : GoodIn wsX4_solve wsX4_leastFrom := goodIn_r _ [9, 4, 1, 2, 3, 10, 11, 12, 13, 14, 15, 16, 8, 17, 18, 19, 20, 21, 22, 23] (by decide +kernel) (by decide +kernel)
set_option maxRecDepth 20000 in
theorem gX4_solve_X4_leastFrom : GoodIn wsX4_solve (wsV RX4 65 RX4 yX4_leastFrom wsX4_leastFrom) := goodIn_app (goodIn_of _ (by decide +kernel)) ggX4_solve_X4_leastFrom
theorem dX4_solve_0 : decode cX4_solve 0 = .ok (.aload_n 0, 1) := by decide +kernel
theorem dX4_solve_1 : decode cX4_solve 1 = .ok (.iload_n 1, 1) := by decide +kernel
theorem dX4_solve_2 : decode cX4_solve 2 = .ok (.putfield 21, 3) := by decide +kernel
theorem dX4_solve_5 : decode cX4_solve 5 = .ok (.aload_n 0, 1) := by decide +kernel
theorem dX4_solve_6 : decode cX4_solve 6 = .ok (.iload_n 2, 1) := by decide +kernel
theorem dX4_solve_7 : decode cX4_solve 7 = .ok (.putfield 25, 3) := by decide +kernel
theorem dX4_solve_10 : decode cX4_solve 10 = .ok (.iconst 0, 1) := by decide +kernel
theorem dX4_solve_11 : decode cX4_solve 11 = .ok (.istore_n 3, 1) := by decide +kernel
theorem dX4_solve_12 : decode cX4_solve 12 = .ok (.iload_n 3, 1) := by decide +kernel
theorem dX4_solve_13 : decode cX4_solve 13 = .ok (.aload_n 0, 1) := by decide +kernel
theorem dX4_solve_14 : decode cX4_solve 14 = .ok (.getfield 21, 3) := by decide +kernel
theorem dX4_solve_17 : decode cX4_solve 17 = .ok (.if_icmp .ge 17, 3) := by decide +kernel
theorem dX4_solve_20 : decode cX4_solve 20 = .ok (.aload_n 0, 1) := by decide +kernel
theorem dX4_solve_21 : decode cX4_solve 21 = .ok (.getfield 15, 3) := by decide +kernel
theorem dX4_solve_24 : decode cX4_solve 24 = .ok (.iload_n 3, 1) := by decide +kernel
theorem dX4_solve_25 : decode cX4_solve 25 = .ok (.ldc 64, 2) := by decide +kernel
theorem dX4_solve_27 : decode cX4_solve 27 = .ok (.iastore, 1) := by decide +kernel
theorem dX4_solve_28 : decode cX4_solve 28 = .ok (.iinc 3 1, 3) := by decide +kernel
theorem dX4_solve_31 : decode cX4_solve 31 = .ok (.goto (-19), 3) := by decide +kernel
theorem dX4_solve_34 : decode cX4_solve 34 = .ok (.aload_n 0, 1) := by decide +kernel
theorem dX4_solve_35 : decode cX4_solve 35 = .ok (.getfield 15, 3) := by decide +kernel
theorem dX4_solve_38 : decode cX4_solve 38 = .ok (.aload_n 0, 1) := by decide +kernel
theorem dX4_solve_39 : decode cX4_solve 39 = .ok (.getfield 21, 3) := by decide +kernel
theorem dX4_solve_42 : decode cX4_solve 42 = .ok (.iconst 0, 1) := by decide +kernel
theorem dX4_solve_43 : decode cX4_solve 43 = .ok (.iastore, 1) := by decide +kernel
theorem dX4_solve_44 : decode cX4_solve 44 = .ok (.iconst 1, 1) := by decide +kernel
theorem dX4_solve_45 : decode cX4_solve 45 = .ok (.istore_n 3, 1) := by decide +kernel
theorem dX4_solve_46 : decode cX4_solve 46 = .ok (.iload_n 3, 1) := by decide +kernel
theorem dX4_solve_47 : decode cX4_solve 47 = .ok (.aload_n 0, 1) := by decide +kernel
theorem dX4_solve_48 : decode cX4_solve 48 = .ok (.getfield 21, 3) := by decide +kernel
theorem dX4_solve_51 : decode cX4_solve 51 = .ok (.if_icmp .gt 62, 3) := by decide +kernel
theorem dX4_solve_54 : decode cX4_solve 54 = .ok (.aload_n 0, 1) := by decide +kernel
theorem dX4_solve_55 : decode cX4_solve 55 = .ok (.getfield 15, 3) := by decide +kernel
theorem dX4_solve_58 : decode cX4_solve 58 = .ok (.iload_n 3, 1) := by decide +kernel
theorem dX4_solve_59 : decode cX4_solve 59 = .ok (.bipush 25, 2) := by decide +kernel
theorem dX4_solve_61 : decode cX4_solve 61 = .ok (.imul, 1) := by decide +kernel
theorem dX4_solve_62 : decode cX4_solve 62 = .ok (.aload_n 0, 1) := by decide +kernel
theorem dX4_solve_63 : decode cX4_solve 63 = .ok (.getfield 21, 3) := by decide +kernel
theorem dX4_solve_66 : decode cX4_solve 66 = .ok (.iadd, 1) := by decide +kernel
theorem dX4_solve_67 : decode cX4_solve 67 = .ok (.ldc 64, 2) := by decide +kernel
theorem dX4_solve_69 : decode cX4_solve 69 = .ok (.iastore, 1) := by decide +kernel
theorem dX4_solve_70 : decode cX4_solve 70 = .ok (.iconst 0, 1) := by decide +kernel
theorem dX4_solve_71 : decode cX4_solve 71 = .ok (.istore 4, 2) := by decide +kernel
theorem dX4_solve_73 : decode cX4_solve 73 = .ok (.iload 4, 2) := by decide +kernel
theorem dX4_solve_75 : decode cX4_solve 75 = .ok (.aload_n 0, 1) := by decide +kernel
theorem dX4_solve_76 : decode cX4_solve 76 = .ok (.getfield 21, 3) := by decide +kernel
theorem dX4_solve_79 : decode cX4_solve 79 = .ok (.if_icmp .ge 28, 3) := by decide +kernel
theorem dX4_solve_82 : decode cX4_solve 82 = .ok (.aload_n 0, 1) := by decide +kernel
theorem dX4_solve_83 : decode cX4_solve 83 = .ok (.getfield 15, 3) := by decide +kernel
theorem dX4_solve_86 : decode cX4_solve 86 = .ok (.iload_n 3, 1) := by decide +kernel
theorem dX4_solve_87 : decode cX4_solve 87 = .ok (.bipush 25, 2) := by decide +kernel
theorem dX4_solve_89 : decode cX4_solve 89 = .ok (.imul, 1) := by decide +kernel
theorem dX4_solve_90 : decode cX4_solve 90 = .ok (.iload 4, 2) := by decide +kernel
theorem dX4_solve_92 : decode cX4_solve 92 = .ok (.iadd, 1) := by decide +kernel
theorem dX4_solve_93 : decode cX4_solve 93 = .ok (.aload_n 0, 1) := by decide +kernel
theorem dX4_solve_94 : decode cX4_solve 94 = .ok (.iload_n 3, 1) := by decide +kernel
theorem dX4_solve_95 : decode cX4_solve 95 = .ok (.iload 4, 2) := by decide +kernel
theorem dX4_solve_97 : decode cX4_solve 97 = .ok (.invokevirtual 65, 3) := by decide +kernel
theorem dX4_solve_100 : decode cX4_solve 100 = .ok (.iastore, 1) := by decide +kernel
theorem dX4_solve_101 : decode cX4_solve 101 = .ok (.iinc 4 1, 3) := by decide +kernel
theorem dX4_solve_104 : decode cX4_solve 104 = .ok (.goto (-31), 3) := by decide +kernel
theorem dX4_solve_107 : decode cX4_solve 107 = .ok (.iinc 3 1, 3) := by decide +kernel
theorem dX4_solve_110 : decode cX4_solve 110 = .ok (.goto (-64), 3) := by decide +kernel
theorem dX4_solve_113 : decode cX4_solve 113 = .ok (.return_, 1) := by decide +kernel
set_option maxRecDepth 20000 in
theorem ggX4_leastFrom_X4_clashesBelow : GoodIn wsX4_leastFrom wsX4_clashesBelow := goodIn_r _ [13, 14, 15, 16, 17, 18, 19] (by decide +kernel) (by decide +kernel)
set_option maxRecDepth 20000 in
theorem gX4_leastFrom_X4_clashesBelow : GoodIn wsX4_leastFrom (wsV RX4 61 RX4 yX4_clashesBelow wsX4_clashesBelow) := goodIn_app (goodIn_of _ (by decide +kernel)) ggX4_leastFrom_X4_clashesBelow
theorem dX4_leastFrom_0 : decode cX4_leastFrom 0 = .ok (.ldc 64, 2) := by decide +kernel
theorem dX4_leastFrom_2 : decode cX4_leastFrom 2 = .ok (.istore_n 3, 1) := by decide +kernel
theorem dX4_leastFrom_3 : decode cX4_leastFrom 3 = .ok (.iconst 0, 1) := by decide +kernel
theorem dX4_leastFrom_4 : decode cX4_leastFrom 4 = .ok (.istore 4, 2) := by decide +kernel
theorem dX4_leastFrom_6 : decode cX4_leastFrom 6 = .ok (.iload_n 2, 1) := by decide +kernel
theorem dX4_leastFrom_7 : decode cX4_leastFrom 7 = .ok (.iconst 1, 1) := by decide +kernel
theorem dX4_leastFrom_8 : decode cX4_leastFrom 8 = .ok (.iadd, 1) := by decide +kernel
theorem dX4_leastFrom_9 : decode cX4_leastFrom 9 = .ok (.istore 5, 2) := by decide +kernel
theorem dX4_leastFrom_11 : decode cX4_leastFrom 11 = .ok (.iload 5, 2) := by decide +kernel
theorem dX4_leastFrom_13 : decode cX4_leastFrom 13 = .ok (.aload_n 0, 1) := by decide +kernel
theorem dX4_leastFrom_14 : decode cX4_leastFrom 14 = .ok (.getfield 21, 3) := by decide +kernel
theorem dX4_leastFrom_17 : decode cX4_leastFrom 17 = .ok (.if_icmp .gt 56, 3) := by decide +kernel
theorem dX4_leastFrom_20 : decode cX4_leastFrom 20 = .ok (.iload 5, 2) := by decide +kernel
theorem dX4_leastFrom_22 : decode cX4_leastFrom 22 = .ok (.iload_n 2, 1) := by decide +kernel
theorem dX4_leastFrom_23 : decode cX4_leastFrom 23 = .ok (.aload_n 0, 1) := by decide +kernel
theorem dX4_leastFrom_24 : decode cX4_leastFrom 24 = .ok (.getfield 25, 3) := by decide +kernel
theorem dX4_leastFrom_27 : decode cX4_leastFrom 27 = .ok (.iadd, 1) := by decide +kernel
theorem dX4_leastFrom_28 : decode cX4_leastFrom 28 = .ok (.if_icmp .gt 45, 3) := by decide +kernel
theorem dX4_leastFrom_31 : decode cX4_leastFrom 31 = .ok (.iload 4, 2) := by decide +kernel
theorem dX4_leastFrom_33 : decode cX4_leastFrom 33 = .ok (.aload_n 0, 1) := by decide +kernel
theorem dX4_leastFrom_34 : decode cX4_leastFrom 34 = .ok (.iload_n 2, 1) := by decide +kernel
theorem dX4_leastFrom_35 : decode cX4_leastFrom 35 = .ok (.iload 5, 2) := by decide +kernel
theorem dX4_leastFrom_37 : decode cX4_leastFrom 37 = .ok (.iconst 1, 1) := by decide +kernel
theorem dX4_leastFrom_38 : decode cX4_leastFrom 38 = .ok (.isub, 1) := by decide +kernel
theorem dX4_leastFrom_39 : decode cX4_leastFrom 39 = .ok (.invokevirtual 61, 3) := by decide +kernel
theorem dX4_leastFrom_42 : decode cX4_leastFrom 42 = .ok (.iadd, 1) := by decide +kernel
theorem dX4_leastFrom_43 : decode cX4_leastFrom 43 = .ok (.istore 4, 2) := by decide +kernel
theorem dX4_leastFrom_45 : decode cX4_leastFrom 45 = .ok (.iload_n 3, 1) := by decide +kernel
theorem dX4_leastFrom_46 : decode cX4_leastFrom 46 = .ok (.iload 4, 2) := by decide +kernel
theorem dX4_leastFrom_48 : decode cX4_leastFrom 48 = .ok (.aload_n 0, 1) := by decide +kernel
theorem dX4_leastFrom_49 : decode cX4_leastFrom 49 = .ok (.getfield 15, 3) := by decide +kernel
theorem dX4_leastFrom_52 : decode cX4_leastFrom 52 = .ok (.iload_n 1, 1) := by decide +kernel
theorem dX4_leastFrom_53 : decode cX4_leastFrom 53 = .ok (.iconst 1, 1) := by decide +kernel
theorem dX4_leastFrom_54 : decode cX4_leastFrom 54 = .ok (.isub, 1) := by decide +kernel
theorem dX4_leastFrom_55 : decode cX4_leastFrom 55 = .ok (.bipush 25, 2) := by decide +kernel
theorem dX4_leastFrom_57 : decode cX4_leastFrom 57 = .ok (.imul, 1) := by decide +kernel
theorem dX4_leastFrom_58 : decode cX4_leastFrom 58 = .ok (.iload 5, 2) := by decide +kernel
theorem dX4_leastFrom_60 : decode cX4_leastFrom 60 = .ok (.iadd, 1) := by decide +kernel
theorem dX4_leastFrom_61 : decode cX4_leastFrom 61 = .ok (.iaload, 1) := by decide +kernel
theorem dX4_leastFrom_62 : decode cX4_leastFrom 62 = .ok (.iadd, 1) := by decide +kernel
theorem dX4_leastFrom_63 : decode cX4_leastFrom 63 = .ok (.invokestatic 52, 3) := by decide +kernel
theorem dX4_leastFrom_66 : decode cX4_leastFrom 66 = .ok (.istore_n 3, 1) := by decide +kernel
theorem dX4_leastFrom_67 : decode cX4_leastFrom 67 = .ok (.iinc 5 1, 3) := by decide +kernel
theorem dX4_leastFrom_70 : decode cX4_leastFrom 70 = .ok (.goto (-59), 3) := by decide +kernel
theorem dX4_leastFrom_73 : decode cX4_leastFrom 73 = .ok (.iload_n 3, 1) := by decide +kernel
theorem dX4_leastFrom_74 : decode cX4_leastFrom 74 = .ok (.ireturn, 1) := by decide +kernel
theorem dX4_leastWith_0 : decode cX4_leastWith 0 = .ok (.aload_n 0, 1) := by decide +kernel
theorem dX4_leastWith_1 : decode cX4_leastWith 1 = .ok (.getfield 15, 3) := by decide +kernel
theorem dX4_leastWith_4 : decode cX4_leastWith 4 = .ok (.iload_n 1, 1) := by decide +kernel
theorem dX4_leastWith_5 : decode cX4_leastWith 5 = .ok (.bipush 25, 2) := by decide +kernel
theorem dX4_leastWith_7 : decode cX4_leastWith 7 = .ok (.imul, 1) := by decide +kernel
theorem dX4_leastWith_8 : decode cX4_leastWith 8 = .ok (.iaload, 1) := by decide +kernel
theorem dX4_leastWith_9 : decode cX4_leastWith 9 = .ok (.ireturn, 1) := by decide +kernel
set_option maxRecDepth 20000 in
theorem ggX4_fewestStrings_X4_leastWith : GoodIn wsX4_fewestStrings wsX4_leastWith := goodIn_r _ [6, 7, 8, 9, 10, 11, 12] (by decide +kernel) (by decide +kernel)
set_option maxRecDepth 20000 in
theorem gX4_fewestStrings_X4_leastWith : GoodIn wsX4_fewestStrings (wsV RX4 68 RX4 yX4_leastWith wsX4_leastWith) := goodIn_app (goodIn_of _ (by decide +kernel)) ggX4_fewestStrings_X4_leastWith
theorem dX4_fewestStrings_0 : decode cX4_fewestStrings 0 = .ok (.iconst 1, 1) := by decide +kernel
theorem dX4_fewestStrings_1 : decode cX4_fewestStrings 1 = .ok (.istore_n 1, 1) := by decide +kernel
theorem dX4_fewestStrings_2 : decode cX4_fewestStrings 2 = .ok (.iload_n 1, 1) := by decide +kernel
theorem dX4_fewestStrings_3 : decode cX4_fewestStrings 3 = .ok (.aload_n 0, 1) := by decide +kernel
theorem dX4_fewestStrings_4 : decode cX4_fewestStrings 4 = .ok (.getfield 21, 3) := by decide +kernel
theorem dX4_fewestStrings_7 : decode cX4_fewestStrings 7 = .ok (.if_icmp .ge 19, 3) := by decide +kernel
theorem dX4_fewestStrings_10 : decode cX4_fewestStrings 10 = .ok (.aload_n 0, 1) := by decide +kernel
theorem dX4_fewestStrings_11 : decode cX4_fewestStrings 11 = .ok (.iload_n 1, 1) := by decide +kernel
theorem dX4_fewestStrings_12 : decode cX4_fewestStrings 12 = .ok (.invokevirtual 68, 3) := by decide +kernel
theorem dX4_fewestStrings_15 : decode cX4_fewestStrings 15 = .ok (.ifCond .ne 5, 3) := by decide +kernel
theorem dX4_fewestStrings_18 : decode cX4_fewestStrings 18 = .ok (.iload_n 1, 1) := by decide +kernel
theorem dX4_fewestStrings_19 : decode cX4_fewestStrings 19 = .ok (.ireturn, 1) := by decide +kernel
theorem dX4_fewestStrings_20 : decode cX4_fewestStrings 20 = .ok (.iinc 1 1, 3) := by decide +kernel
theorem dX4_fewestStrings_23 : decode cX4_fewestStrings 23 = .ok (.goto (-21), 3) := by decide +kernel
theorem dX4_fewestStrings_26 : decode cX4_fewestStrings 26 = .ok (.aload_n 0, 1) := by decide +kernel
theorem dX4_fewestStrings_27 : decode cX4_fewestStrings 27 = .ok (.getfield 21, 3) := by decide +kernel
theorem dX4_fewestStrings_30 : decode cX4_fewestStrings 30 = .ok (.ireturn, 1) := by decide +kernel
set_option maxRecDepth 20000 in
theorem ggX4_bestStrings_X4_leastWith : GoodIn wsX4_bestStrings wsX4_leastWith := goodIn_r _ [8, 9, 10, 11, 12, 13, 14] (by decide +kernel) (by decide +kernel)
set_option maxRecDepth 20000 in
theorem gX4_bestStrings_X4_leastWith : GoodIn wsX4_bestStrings (wsV RX4 68 RX4 yX4_leastWith wsX4_leastWith) := goodIn_app (goodIn_of _ (by decide +kernel)) ggX4_bestStrings_X4_leastWith
theorem dX4_bestStrings_0 : decode cX4_bestStrings 0 = .ok (.ldc 71, 2) := by decide +kernel
theorem dX4_bestStrings_2 : decode cX4_bestStrings 2 = .ok (.istore_n 2, 1) := by decide +kernel
theorem dX4_bestStrings_3 : decode cX4_bestStrings 3 = .ok (.ldc 64, 2) := by decide +kernel
theorem dX4_bestStrings_5 : decode cX4_bestStrings 5 = .ok (.istore_n 3, 1) := by decide +kernel
theorem dX4_bestStrings_6 : decode cX4_bestStrings 6 = .ok (.iconst 1, 1) := by decide +kernel
theorem dX4_bestStrings_7 : decode cX4_bestStrings 7 = .ok (.istore 4, 2) := by decide +kernel
theorem dX4_bestStrings_9 : decode cX4_bestStrings 9 = .ok (.iload 4, 2) := by decide +kernel
theorem dX4_bestStrings_11 : decode cX4_bestStrings 11 = .ok (.iload_n 1, 1) := by decide +kernel
theorem dX4_bestStrings_12 : decode cX4_bestStrings 12 = .ok (.if_icmp .gt 38, 3) := by decide +kernel
theorem dX4_bestStrings_15 : decode cX4_bestStrings 15 = .ok (.iload 4, 2) := by decide +kernel
theorem dX4_bestStrings_17 : decode cX4_bestStrings 17 = .ok (.aload_n 0, 1) := by decide +kernel
theorem dX4_bestStrings_18 : decode cX4_bestStrings 18 = .ok (.getfield 21, 3) := by decide +kernel
theorem dX4_bestStrings_21 : decode cX4_bestStrings 21 = .ok (.if_icmp .gt 29, 3) := by decide +kernel
theorem dX4_bestStrings_24 : decode cX4_bestStrings 24 = .ok (.aload_n 0, 1) := by decide +kernel
theorem dX4_bestStrings_25 : decode cX4_bestStrings 25 = .ok (.iload 4, 2) := by decide +kernel
theorem dX4_bestStrings_27 : decode cX4_bestStrings 27 = .ok (.invokevirtual 68, 3) := by decide +kernel
theorem dX4_bestStrings_30 : decode cX4_bestStrings 30 = .ok (.iload_n 3, 1) := by decide +kernel
theorem dX4_bestStrings_31 : decode cX4_bestStrings 31 = .ok (.if_icmp .ge 13, 3) := by decide +kernel
theorem dX4_bestStrings_34 : decode cX4_bestStrings 34 = .ok (.aload_n 0, 1) := by decide +kernel
theorem dX4_bestStrings_35 : decode cX4_bestStrings 35 = .ok (.iload 4, 2) := by decide +kernel
theorem dX4_bestStrings_37 : decode cX4_bestStrings 37 = .ok (.invokevirtual 68, 3) := by decide +kernel
theorem dX4_bestStrings_40 : decode cX4_bestStrings 40 = .ok (.istore_n 3, 1) := by decide +kernel
theorem dX4_bestStrings_41 : decode cX4_bestStrings 41 = .ok (.iload 4, 2) := by decide +kernel
theorem dX4_bestStrings_43 : decode cX4_bestStrings 43 = .ok (.istore_n 2, 1) := by decide +kernel
theorem dX4_bestStrings_44 : decode cX4_bestStrings 44 = .ok (.iinc 4 1, 3) := by decide +kernel
theorem dX4_bestStrings_47 : decode cX4_bestStrings 47 = .ok (.goto (-38), 3) := by decide +kernel
theorem dX4_bestStrings_50 : decode cX4_bestStrings 50 = .ok (.iload_n 2, 1) := by decide +kernel
theorem dX4_bestStrings_51 : decode cX4_bestStrings 51 = .ok (.ireturn, 1) := by decide +kernel
set_option maxRecDepth 20000 in
theorem ggX4_layOut_X4_greatestGroupEnd : GoodIn wsX4_layOut wsX4_greatestGroupEnd := goodIn_r _ [6, 7, 8, 9, 10, 11, 12, 5, 13, 14, 15, 16, 17, 18, 19] (by decide +kernel) (by decide +kernel)
set_option maxRecDepth 20000 in
theorem gX4_layOut_X4_greatestGroupEnd : GoodIn wsX4_layOut (wsV RX4 72 RX4 yX4_greatestGroupEnd wsX4_greatestGroupEnd) := goodIn_app (goodIn_of _ (by decide +kernel)) ggX4_layOut_X4_greatestGroupEnd
theorem dX4_layOut_0 : decode cX4_layOut 0 = .ok (.iconst 0, 1) := by decide +kernel
theorem dX4_layOut_1 : decode cX4_layOut 1 = .ok (.istore_n 2, 1) := by decide +kernel
theorem dX4_layOut_2 : decode cX4_layOut 2 = .ok (.iconst 0, 1) := by decide +kernel
theorem dX4_layOut_3 : decode cX4_layOut 3 = .ok (.istore_n 3, 1) := by decide +kernel
theorem dX4_layOut_4 : decode cX4_layOut 4 = .ok (.iload_n 3, 1) := by decide +kernel
theorem dX4_layOut_5 : decode cX4_layOut 5 = .ok (.iload_n 1, 1) := by decide +kernel
theorem dX4_layOut_6 : decode cX4_layOut 6 = .ok (.if_icmp .ge 46, 3) := by decide +kernel
theorem dX4_layOut_9 : decode cX4_layOut 9 = .ok (.aload_n 0, 1) := by decide +kernel
theorem dX4_layOut_10 : decode cX4_layOut 10 = .ok (.iload_n 1, 1) := by decide +kernel
theorem dX4_layOut_11 : decode cX4_layOut 11 = .ok (.iload_n 3, 1) := by decide +kernel
theorem dX4_layOut_12 : decode cX4_layOut 12 = .ok (.isub, 1) := by decide +kernel
theorem dX4_layOut_13 : decode cX4_layOut 13 = .ok (.iload_n 2, 1) := by decide +kernel
theorem dX4_layOut_14 : decode cX4_layOut 14 = .ok (.invokevirtual 72, 3) := by decide +kernel
theorem dX4_layOut_17 : decode cX4_layOut 17 = .ok (.istore 4, 2) := by decide +kernel
theorem dX4_layOut_19 : decode cX4_layOut 19 = .ok (.iload_n 2, 1) := by decide +kernel
theorem dX4_layOut_20 : decode cX4_layOut 20 = .ok (.istore 5, 2) := by decide +kernel
theorem dX4_layOut_22 : decode cX4_layOut 22 = .ok (.iload 5, 2) := by decide +kernel
theorem dX4_layOut_24 : decode cX4_layOut 24 = .ok (.iload 4, 2) := by decide +kernel
theorem dX4_layOut_26 : decode cX4_layOut 26 = .ok (.if_icmp .ge 17, 3) := by decide +kernel
theorem dX4_layOut_29 : decode cX4_layOut 29 = .ok (.aload_n 0, 1) := by decide +kernel
theorem dX4_layOut_30 : decode cX4_layOut 30 = .ok (.getfield 18, 3) := by decide +kernel
theorem dX4_layOut_33 : decode cX4_layOut 33 = .ok (.iload 5, 2) := by decide +kernel
theorem dX4_layOut_35 : decode cX4_layOut 35 = .ok (.iload_n 3, 1) := by decide +kernel
theorem dX4_layOut_36 : decode cX4_layOut 36 = .ok (.iastore, 1) := by decide +kernel
theorem dX4_layOut_37 : decode cX4_layOut 37 = .ok (.iinc 5 1, 3) := by decide +kernel
theorem dX4_layOut_40 : decode cX4_layOut 40 = .ok (.goto (-18), 3) := by decide +kernel
theorem dX4_layOut_43 : decode cX4_layOut 43 = .ok (.iload 4, 2) := by decide +kernel
theorem dX4_layOut_45 : decode cX4_layOut 45 = .ok (.istore_n 2, 1) := by decide +kernel
theorem dX4_layOut_46 : decode cX4_layOut 46 = .ok (.iinc 3 1, 3) := by decide +kernel
theorem dX4_layOut_49 : decode cX4_layOut 49 = .ok (.goto (-45), 3) := by decide +kernel
theorem dX4_layOut_52 : decode cX4_layOut 52 = .ok (.return_, 1) := by decide +kernel
set_option maxRecDepth 20000 in
theorem ggX4_greatestGroupEnd_X4_clashesBelow : GoodIn wsX4_greatestGroupEnd wsX4_clashesBelow := goodIn_r _ [8, 9, 10, 11, 12, 13, 14] (by decide +kernel) (by decide +kernel)
set_option maxRecDepth 20000 in
theorem gX4_greatestGroupEnd_X4_clashesBelow : GoodIn wsX4_greatestGroupEnd (wsV RX4 61 RX4 yX4_clashesBelow wsX4_clashesBelow) := goodIn_app (goodIn_of _ (by decide +kernel)) ggX4_greatestGroupEnd_X4_clashesBelow
theorem dX4_greatestGroupEnd_0 : decode cX4_greatestGroupEnd 0 = .ok (.iload_n 2, 1) := by decide +kernel
theorem dX4_greatestGroupEnd_1 : decode cX4_greatestGroupEnd 1 = .ok (.istore_n 3, 1) := by decide +kernel
theorem dX4_greatestGroupEnd_2 : decode cX4_greatestGroupEnd 2 = .ok (.iconst 0, 1) := by decide +kernel
theorem dX4_greatestGroupEnd_3 : decode cX4_greatestGroupEnd 3 = .ok (.istore 4, 2) := by decide +kernel
theorem dX4_greatestGroupEnd_5 : decode cX4_greatestGroupEnd 5 = .ok (.iload_n 2, 1) := by decide +kernel
theorem dX4_greatestGroupEnd_6 : decode cX4_greatestGroupEnd 6 = .ok (.iconst 1, 1) := by decide +kernel
theorem dX4_greatestGroupEnd_7 : decode cX4_greatestGroupEnd 7 = .ok (.iadd, 1) := by decide +kernel
theorem dX4_greatestGroupEnd_8 : decode cX4_greatestGroupEnd 8 = .ok (.istore 5, 2) := by decide +kernel
theorem dX4_greatestGroupEnd_10 : decode cX4_greatestGroupEnd 10 = .ok (.iload 5, 2) := by decide +kernel
theorem dX4_greatestGroupEnd_12 : decode cX4_greatestGroupEnd 12 = .ok (.aload_n 0, 1) := by decide +kernel
theorem dX4_greatestGroupEnd_13 : decode cX4_greatestGroupEnd 13 = .ok (.getfield 21, 3) := by decide +kernel
theorem dX4_greatestGroupEnd_16 : decode cX4_greatestGroupEnd 16 = .ok (.if_icmp .gt 72, 3) := by decide +kernel
theorem dX4_greatestGroupEnd_19 : decode cX4_greatestGroupEnd 19 = .ok (.iload 5, 2) := by decide +kernel
theorem dX4_greatestGroupEnd_21 : decode cX4_greatestGroupEnd 21 = .ok (.iload_n 2, 1) := by decide +kernel
theorem dX4_greatestGroupEnd_22 : decode cX4_greatestGroupEnd 22 = .ok (.aload_n 0, 1) := by decide +kernel
theorem dX4_greatestGroupEnd_23 : decode cX4_greatestGroupEnd 23 = .ok (.getfield 25, 3) := by decide +kernel
theorem dX4_greatestGroupEnd_26 : decode cX4_greatestGroupEnd 26 = .ok (.iadd, 1) := by decide +kernel
theorem dX4_greatestGroupEnd_27 : decode cX4_greatestGroupEnd 27 = .ok (.if_icmp .gt 61, 3) := by decide +kernel
theorem dX4_greatestGroupEnd_30 : decode cX4_greatestGroupEnd 30 = .ok (.iload 4, 2) := by decide +kernel
theorem dX4_greatestGroupEnd_32 : decode cX4_greatestGroupEnd 32 = .ok (.aload_n 0, 1) := by decide +kernel
theorem dX4_greatestGroupEnd_33 : decode cX4_greatestGroupEnd 33 = .ok (.iload_n 2, 1) := by decide +kernel
theorem dX4_greatestGroupEnd_34 : decode cX4_greatestGroupEnd 34 = .ok (.iload 5, 2) := by decide +kernel
theorem dX4_greatestGroupEnd_36 : decode cX4_greatestGroupEnd 36 = .ok (.iconst 1, 1) := by decide +kernel
theorem dX4_greatestGroupEnd_37 : decode cX4_greatestGroupEnd 37 = .ok (.isub, 1) := by decide +kernel
theorem dX4_greatestGroupEnd_38 : decode cX4_greatestGroupEnd 38 = .ok (.invokevirtual 61, 3) := by decide +kernel
theorem dX4_greatestGroupEnd_41 : decode cX4_greatestGroupEnd 41 = .ok (.iadd, 1) := by decide +kernel
theorem dX4_greatestGroupEnd_42 : decode cX4_greatestGroupEnd 42 = .ok (.istore 4, 2) := by decide +kernel
theorem dX4_greatestGroupEnd_44 : decode cX4_greatestGroupEnd 44 = .ok (.iload 4, 2) := by decide +kernel
theorem dX4_greatestGroupEnd_46 : decode cX4_greatestGroupEnd 46 = .ok (.aload_n 0, 1) := by decide +kernel
theorem dX4_greatestGroupEnd_47 : decode cX4_greatestGroupEnd 47 = .ok (.getfield 15, 3) := by decide +kernel
theorem dX4_greatestGroupEnd_50 : decode cX4_greatestGroupEnd 50 = .ok (.iload_n 1, 1) := by decide +kernel
theorem dX4_greatestGroupEnd_51 : decode cX4_greatestGroupEnd 51 = .ok (.iconst 1, 1) := by decide +kernel
theorem dX4_greatestGroupEnd_52 : decode cX4_greatestGroupEnd 52 = .ok (.isub, 1) := by decide +kernel
theorem dX4_greatestGroupEnd_53 : decode cX4_greatestGroupEnd 53 = .ok (.bipush 25, 2) := by decide +kernel
theorem dX4_greatestGroupEnd_55 : decode cX4_greatestGroupEnd 55 = .ok (.imul, 1) := by decide +kernel
theorem dX4_greatestGroupEnd_56 : decode cX4_greatestGroupEnd 56 = .ok (.iload 5, 2) := by decide +kernel
theorem dX4_greatestGroupEnd_58 : decode cX4_greatestGroupEnd 58 = .ok (.iadd, 1) := by decide +kernel
theorem dX4_greatestGroupEnd_59 : decode cX4_greatestGroupEnd 59 = .ok (.iaload, 1) := by decide +kernel
theorem dX4_greatestGroupEnd_60 : decode cX4_greatestGroupEnd 60 = .ok (.iadd, 1) := by decide +kernel
theorem dX4_greatestGroupEnd_61 : decode cX4_greatestGroupEnd 61 = .ok (.istore 6, 2) := by decide +kernel
theorem dX4_greatestGroupEnd_63 : decode cX4_greatestGroupEnd 63 = .ok (.iload 6, 2) := by decide +kernel
theorem dX4_greatestGroupEnd_65 : decode cX4_greatestGroupEnd 65 = .ok (.aload_n 0, 1) := by decide +kernel
theorem dX4_greatestGroupEnd_66 : decode cX4_greatestGroupEnd 66 = .ok (.getfield 15, 3) := by decide +kernel
theorem dX4_greatestGroupEnd_69 : decode cX4_greatestGroupEnd 69 = .ok (.iload_n 1, 1) := by decide +kernel
theorem dX4_greatestGroupEnd_70 : decode cX4_greatestGroupEnd 70 = .ok (.bipush 25, 2) := by decide +kernel
theorem dX4_greatestGroupEnd_72 : decode cX4_greatestGroupEnd 72 = .ok (.imul, 1) := by decide +kernel
theorem dX4_greatestGroupEnd_73 : decode cX4_greatestGroupEnd 73 = .ok (.iload_n 2, 1) := by decide +kernel
theorem dX4_greatestGroupEnd_74 : decode cX4_greatestGroupEnd 74 = .ok (.iadd, 1) := by decide +kernel
theorem dX4_greatestGroupEnd_75 : decode cX4_greatestGroupEnd 75 = .ok (.iaload, 1) := by decide +kernel
theorem dX4_greatestGroupEnd_76 : decode cX4_greatestGroupEnd 76 = .ok (.if_icmp .ne 6, 3) := by decide +kernel
theorem dX4_greatestGroupEnd_79 : decode cX4_greatestGroupEnd 79 = .ok (.iload 5, 2) := by decide +kernel
theorem dX4_greatestGroupEnd_81 : decode cX4_greatestGroupEnd 81 = .ok (.istore_n 3, 1) := by decide +kernel
theorem dX4_greatestGroupEnd_82 : decode cX4_greatestGroupEnd 82 = .ok (.iinc 5 1, 3) := by decide +kernel
theorem dX4_greatestGroupEnd_85 : decode cX4_greatestGroupEnd 85 = .ok (.goto (-75), 3) := by decide +kernel
theorem dX4_greatestGroupEnd_88 : decode cX4_greatestGroupEnd 88 = .ok (.iload_n 3, 1) := by decide +kernel
theorem dX4_greatestGroupEnd_89 : decode cX4_greatestGroupEnd 89 = .ok (.ireturn, 1) := by decide +kernel
theorem dJ6_bitCount_0f7a4_0 : decode cJ6_bitCount_0f7a4 0 = .ok (.iload_n 0, 1) := by decide +kernel
theorem dJ6_bitCount_0f7a4_1 : decode cJ6_bitCount_0f7a4 1 = .ok (.iload_n 0, 1) := by decide +kernel
theorem dJ6_bitCount_0f7a4_2 : decode cJ6_bitCount_0f7a4 2 = .ok (.iconst 1, 1) := by decide +kernel
theorem dJ6_bitCount_0f7a4_3 : decode cJ6_bitCount_0f7a4 3 = .ok (.iushr, 1) := by decide +kernel
theorem dJ6_bitCount_0f7a4_4 : decode cJ6_bitCount_0f7a4 4 = .ok (.ldc_w 265, 3) := by decide +kernel
theorem dJ6_bitCount_0f7a4_7 : decode cJ6_bitCount_0f7a4 7 = .ok (.iand, 1) := by decide +kernel
theorem dJ6_bitCount_0f7a4_8 : decode cJ6_bitCount_0f7a4 8 = .ok (.isub, 1) := by decide +kernel
theorem dJ6_bitCount_0f7a4_9 : decode cJ6_bitCount_0f7a4 9 = .ok (.istore_n 0, 1) := by decide +kernel
theorem dJ6_bitCount_0f7a4_10 : decode cJ6_bitCount_0f7a4 10 = .ok (.iload_n 0, 1) := by decide +kernel
theorem dJ6_bitCount_0f7a4_11 : decode cJ6_bitCount_0f7a4 11 = .ok (.ldc_w 266, 3) := by decide +kernel
theorem dJ6_bitCount_0f7a4_14 : decode cJ6_bitCount_0f7a4 14 = .ok (.iand, 1) := by decide +kernel
theorem dJ6_bitCount_0f7a4_15 : decode cJ6_bitCount_0f7a4 15 = .ok (.iload_n 0, 1) := by decide +kernel
theorem dJ6_bitCount_0f7a4_16 : decode cJ6_bitCount_0f7a4 16 = .ok (.iconst 2, 1) := by decide +kernel
theorem dJ6_bitCount_0f7a4_17 : decode cJ6_bitCount_0f7a4 17 = .ok (.iushr, 1) := by decide +kernel
theorem dJ6_bitCount_0f7a4_18 : decode cJ6_bitCount_0f7a4 18 = .ok (.ldc_w 266, 3) := by decide +kernel
theorem dJ6_bitCount_0f7a4_21 : decode cJ6_bitCount_0f7a4 21 = .ok (.iand, 1) := by decide +kernel
theorem dJ6_bitCount_0f7a4_22 : decode cJ6_bitCount_0f7a4 22 = .ok (.iadd, 1) := by decide +kernel
theorem dJ6_bitCount_0f7a4_23 : decode cJ6_bitCount_0f7a4 23 = .ok (.istore_n 0, 1) := by decide +kernel
theorem dJ6_bitCount_0f7a4_24 : decode cJ6_bitCount_0f7a4 24 = .ok (.iload_n 0, 1) := by decide +kernel
theorem dJ6_bitCount_0f7a4_25 : decode cJ6_bitCount_0f7a4 25 = .ok (.iload_n 0, 1) := by decide +kernel
theorem dJ6_bitCount_0f7a4_26 : decode cJ6_bitCount_0f7a4 26 = .ok (.iconst 4, 1) := by decide +kernel
theorem dJ6_bitCount_0f7a4_27 : decode cJ6_bitCount_0f7a4 27 = .ok (.iushr, 1) := by decide +kernel
theorem dJ6_bitCount_0f7a4_28 : decode cJ6_bitCount_0f7a4 28 = .ok (.iadd, 1) := by decide +kernel
theorem dJ6_bitCount_0f7a4_29 : decode cJ6_bitCount_0f7a4 29 = .ok (.ldc_w 267, 3) := by decide +kernel
theorem dJ6_bitCount_0f7a4_32 : decode cJ6_bitCount_0f7a4 32 = .ok (.iand, 1) := by decide +kernel
theorem dJ6_bitCount_0f7a4_33 : decode cJ6_bitCount_0f7a4 33 = .ok (.istore_n 0, 1) := by decide +kernel
theorem dJ6_bitCount_0f7a4_34 : decode cJ6_bitCount_0f7a4 34 = .ok (.iload_n 0, 1) := by decide +kernel
theorem dJ6_bitCount_0f7a4_35 : decode cJ6_bitCount_0f7a4 35 = .ok (.iload_n 0, 1) := by decide +kernel
theorem dJ6_bitCount_0f7a4_36 : decode cJ6_bitCount_0f7a4 36 = .ok (.bipush 8, 2) := by decide +kernel
theorem dJ6_bitCount_0f7a4_38 : decode cJ6_bitCount_0f7a4 38 = .ok (.iushr, 1) := by decide +kernel
theorem dJ6_bitCount_0f7a4_39 : decode cJ6_bitCount_0f7a4 39 = .ok (.iadd, 1) := by decide +kernel
theorem dJ6_bitCount_0f7a4_40 : decode cJ6_bitCount_0f7a4 40 = .ok (.istore_n 0, 1) := by decide +kernel
theorem dJ6_bitCount_0f7a4_41 : decode cJ6_bitCount_0f7a4 41 = .ok (.iload_n 0, 1) := by decide +kernel
theorem dJ6_bitCount_0f7a4_42 : decode cJ6_bitCount_0f7a4 42 = .ok (.iload_n 0, 1) := by decide +kernel
theorem dJ6_bitCount_0f7a4_43 : decode cJ6_bitCount_0f7a4 43 = .ok (.bipush 16, 2) := by decide +kernel
theorem dJ6_bitCount_0f7a4_45 : decode cJ6_bitCount_0f7a4 45 = .ok (.iushr, 1) := by decide +kernel
theorem dJ6_bitCount_0f7a4_46 : decode cJ6_bitCount_0f7a4 46 = .ok (.iadd, 1) := by decide +kernel
theorem dJ6_bitCount_0f7a4_47 : decode cJ6_bitCount_0f7a4 47 = .ok (.istore_n 0, 1) := by decide +kernel
theorem dJ6_bitCount_0f7a4_48 : decode cJ6_bitCount_0f7a4 48 = .ok (.iload_n 0, 1) := by decide +kernel
theorem dJ6_bitCount_0f7a4_49 : decode cJ6_bitCount_0f7a4 49 = .ok (.bipush 63, 2) := by decide +kernel
theorem dJ6_bitCount_0f7a4_51 : decode cJ6_bitCount_0f7a4 51 = .ok (.iand, 1) := by decide +kernel
theorem dJ6_bitCount_0f7a4_52 : decode cJ6_bitCount_0f7a4 52 = .ok (.ireturn, 1) := by decide +kernel
theorem dJ9_abs_0f7a4_0 : decode cJ9_abs_0f7a4 0 = .ok (.iload_n 0, 1) := by decide +kernel
theorem dJ9_abs_0f7a4_1 : decode cJ9_abs_0f7a4 1 = .ok (.ifCond .ge 8, 3) := by decide +kernel
theorem dJ9_abs_0f7a4_4 : decode cJ9_abs_0f7a4 4 = .ok (.iload_n 0, 1) := by decide +kernel
theorem dJ9_abs_0f7a4_5 : decode cJ9_abs_0f7a4 5 = .ok (.ineg, 1) := by decide +kernel
theorem dJ9_abs_0f7a4_6 : decode cJ9_abs_0f7a4 6 = .ok (.goto 4, 3) := by decide +kernel
theorem dJ9_abs_0f7a4_9 : decode cJ9_abs_0f7a4 9 = .ok (.iload_n 0, 1) := by decide +kernel
theorem dJ9_abs_0f7a4_10 : decode cJ9_abs_0f7a4 10 = .ok (.ireturn, 1) := by decide +kernel
theorem dJ9_max_7cf53_0 : decode cJ9_max_7cf53 0 = .ok (.iload_n 0, 1) := by decide +kernel
theorem dJ9_max_7cf53_1 : decode cJ9_max_7cf53 1 = .ok (.iload_n 1, 1) := by decide +kernel
theorem dJ9_max_7cf53_2 : decode cJ9_max_7cf53 2 = .ok (.if_icmp .lt 7, 3) := by decide +kernel
theorem dJ9_max_7cf53_5 : decode cJ9_max_7cf53 5 = .ok (.iload_n 0, 1) := by decide +kernel
theorem dJ9_max_7cf53_6 : decode cJ9_max_7cf53 6 = .ok (.goto 4, 3) := by decide +kernel
theorem dJ9_max_7cf53_9 : decode cJ9_max_7cf53 9 = .ok (.iload_n 1, 1) := by decide +kernel
theorem dJ9_max_7cf53_10 : decode cJ9_max_7cf53 10 = .ok (.ireturn, 1) := by decide +kernel
theorem dJ9_min_7cf53_0 : decode cJ9_min_7cf53 0 = .ok (.iload_n 0, 1) := by decide +kernel
theorem dJ9_min_7cf53_1 : decode cJ9_min_7cf53 1 = .ok (.iload_n 1, 1) := by decide +kernel
theorem dJ9_min_7cf53_2 : decode cJ9_min_7cf53 2 = .ok (.if_icmp .gt 7, 3) := by decide +kernel
theorem dJ9_min_7cf53_5 : decode cJ9_min_7cf53 5 = .ok (.iload_n 0, 1) := by decide +kernel
theorem dJ9_min_7cf53_6 : decode cJ9_min_7cf53 6 = .ok (.goto 4, 3) := by decide +kernel
theorem dJ9_min_7cf53_9 : decode cJ9_min_7cf53 9 = .ok (.iload_n 1, 1) := by decide +kernel
theorem dJ9_min_7cf53_10 : decode cJ9_min_7cf53 10 = .ok (.ireturn, 1) := by decide +kernel
