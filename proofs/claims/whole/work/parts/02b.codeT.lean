set_option maxRecDepth 20000 in
theorem ggX5_init_X0_init : GoodIn wsX5_init wsX0_init := goodIn_r _ [30, 31, 2, 3, 32, 33, 34, 35, 36, 37, 80, 81, 82, 83, 84] (by decide +kernel) (by decide +kernel)
set_option maxRecDepth 20000 in
theorem gX5_init_X0_init : GoodIn wsX5_init (wsX0_init) := ggX5_init_X0_init
set_option maxRecDepth 20000 in
theorem ggX5_init_X3_init : GoodIn wsX5_init wsX3_init := goodIn_r _ [40, 41, 2, 3, 33, 42, 43, 85, 86] (by decide +kernel) (by decide +kernel)
set_option maxRecDepth 20000 in
theorem gX5_init_X3_init : GoodIn wsX5_init (wsX3_init) := ggX5_init_X3_init
set_option maxRecDepth 20000 in
theorem ggX5_init_X1_init : GoodIn wsX5_init wsX1_init := goodIn_r _ [46, 47, 2, 3, 33, 48, 49, 50, 51, 52, 87, 88, 89, 90, 91] (by decide +kernel) (by decide +kernel)
set_option maxRecDepth 20000 in
theorem gX5_init_X1_init : GoodIn wsX5_init (wsX1_init) := ggX5_init_X1_init
set_option maxRecDepth 20000 in
theorem ggX5_init_X4_init : GoodIn wsX5_init wsX4_init := goodIn_r _ [54, 55, 2, 3, 33, 56, 57, 58, 59, 60, 92, 93, 94, 95, 96] (by decide +kernel) (by decide +kernel)
set_option maxRecDepth 20000 in
theorem gX5_init_X4_init_n47 : GoodIn wsX5_init (wsX4_init) := ggX5_init_X4_init
set_option maxRecDepth 20000 in
theorem ggX5_init_X2_init : GoodIn wsX5_init wsX2_init := goodIn_r _ [63, 64, 2, 3, 33, 65, 66, 67, 68, 69, 70, 97, 98, 99, 100, 101] (by decide +kernel) (by decide +kernel)
set_option maxRecDepth 20000 in
theorem gX5_init_X2_init : GoodIn wsX5_init (wsX2_init) := ggX5_init_X2_init
theorem dX5_init_0 : decode cX5_init 0 = .ok (.aload_n 0, 1) := by decide +kernel
theorem dX5_init_1 : decode cX5_init 1 = .ok (.invokespecial 1, 3) := by decide +kernel
theorem dX5_init_4 : decode cX5_init 4 = .ok (.aload_n 0, 1) := by decide +kernel
theorem dX5_init_5 : decode cX5_init 5 = .ok (.iconst 0, 1) := by decide +kernel
theorem dX5_init_6 : decode cX5_init 6 = .ok (.putfield 7, 3) := by decide +kernel
theorem dX5_init_9 : decode cX5_init 9 = .ok (.aload_n 0, 1) := by decide +kernel
theorem dX5_init_10 : decode cX5_init 10 = .ok (.sipush 8000, 3) := by decide +kernel
theorem dX5_init_13 : decode cX5_init 13 = .ok (.putfield 13, 3) := by decide +kernel
theorem dX5_init_16 : decode cX5_init 16 = .ok (.aload_n 0, 1) := by decide +kernel
theorem dX5_init_17 : decode cX5_init 17 = .ok (.iconst 1, 1) := by decide +kernel
theorem dX5_init_18 : decode cX5_init 18 = .ok (.putfield 16, 3) := by decide +kernel
theorem dX5_init_21 : decode cX5_init 21 = .ok (.aload_n 0, 1) := by decide +kernel
theorem dX5_init_22 : decode cX5_init 22 = .ok (.iconst 0, 1) := by decide +kernel
theorem dX5_init_23 : decode cX5_init 23 = .ok (.putfield 19, 3) := by decide +kernel
theorem dX5_init_26 : decode cX5_init 26 = .ok (.aload_n 0, 1) := by decide +kernel
theorem dX5_init_27 : decode cX5_init 27 = .ok (.new 22, 3) := by decide +kernel
theorem dX5_init_30 : decode cX5_init 30 = .ok (.dup, 1) := by decide +kernel
theorem dX5_init_31 : decode cX5_init 31 = .ok (.invokespecial 24, 3) := by decide +kernel
theorem dX5_init_34 : decode cX5_init 34 = .ok (.putfield 25, 3) := by decide +kernel
theorem dX5_init_37 : decode cX5_init 37 = .ok (.aload_n 0, 1) := by decide +kernel
theorem dX5_init_38 : decode cX5_init 38 = .ok (.new 29, 3) := by decide +kernel
theorem dX5_init_41 : decode cX5_init 41 = .ok (.dup, 1) := by decide +kernel
theorem dX5_init_42 : decode cX5_init 42 = .ok (.invokespecial 31, 3) := by decide +kernel
theorem dX5_init_45 : decode cX5_init 45 = .ok (.putfield 32, 3) := by decide +kernel
theorem dX5_init_48 : decode cX5_init 48 = .ok (.aload_n 0, 1) := by decide +kernel
theorem dX5_init_49 : decode cX5_init 49 = .ok (.new 36, 3) := by decide +kernel
theorem dX5_init_52 : decode cX5_init 52 = .ok (.dup, 1) := by decide +kernel
theorem dX5_init_53 : decode cX5_init 53 = .ok (.aload_n 0, 1) := by decide +kernel
theorem dX5_init_54 : decode cX5_init 54 = .ok (.getfield 25, 3) := by decide +kernel
theorem dX5_init_57 : decode cX5_init 57 = .ok (.invokespecial 38, 3) := by decide +kernel
theorem dX5_init_60 : decode cX5_init 60 = .ok (.putfield 41, 3) := by decide +kernel
theorem dX5_init_63 : decode cX5_init 63 = .ok (.aload_n 0, 1) := by decide +kernel
theorem dX5_init_64 : decode cX5_init 64 = .ok (.new 45, 3) := by decide +kernel
theorem dX5_init_67 : decode cX5_init 67 = .ok (.dup, 1) := by decide +kernel
theorem dX5_init_68 : decode cX5_init 68 = .ok (.invokespecial 47, 3) := by decide +kernel
theorem dX5_init_71 : decode cX5_init 71 = .ok (.putfield 48, 3) := by decide +kernel
theorem dX5_init_74 : decode cX5_init 74 = .ok (.aload_n 0, 1) := by decide +kernel
theorem dX5_init_75 : decode cX5_init 75 = .ok (.new 52, 3) := by decide +kernel
theorem dX5_init_78 : decode cX5_init 78 = .ok (.dup, 1) := by decide +kernel
theorem dX5_init_79 : decode cX5_init 79 = .ok (.aload_n 0, 1) := by decide +kernel
theorem dX5_init_80 : decode cX5_init 80 = .ok (.getfield 25, 3) := by decide +kernel
theorem dX5_init_83 : decode cX5_init 83 = .ok (.aload_n 0, 1) := by decide +kernel
theorem dX5_init_84 : decode cX5_init 84 = .ok (.getfield 32, 3) := by decide +kernel
theorem dX5_init_87 : decode cX5_init 87 = .ok (.invokespecial 54, 3) := by decide +kernel
theorem dX5_init_90 : decode cX5_init 90 = .ok (.putfield 57, 3) := by decide +kernel
theorem dX5_init_93 : decode cX5_init 93 = .ok (.return_, 1) := by decide +kernel
set_option maxRecDepth 20000 in
theorem ggX5_keys_X5_within : GoodIn wsX5_keys wsX5_within := goodIn_r _ [7] (by decide +kernel) (by decide +kernel)
set_option maxRecDepth 20000 in
theorem gX5_keys_X5_within : GoodIn wsX5_keys (va_wsS RX5 61 yX5_within wsX5_within) := goodIn_app (goodIn_of _ (by decide +kernel)) ggX5_keys_X5_within
theorem dX5_keys_0 : decode cX5_keys 0 = .ok (.iload_n 1, 1) := by decide +kernel
theorem dX5_keys_1 : decode cX5_keys 1 = .ok (.iconst 1, 1) := by decide +kernel
theorem dX5_keys_2 : decode cX5_keys 2 = .ok (.bipush 24, 2) := by decide +kernel
theorem dX5_keys_4 : decode cX5_keys 4 = .ok (.invokestatic 61, 3) := by decide +kernel
theorem dX5_keys_7 : decode cX5_keys 7 = .ok (.ifCond .ne 6, 3) := by decide +kernel
theorem dX5_keys_10 : decode cX5_keys 10 = .ok (.ldc 65, 2) := by decide +kernel
theorem dX5_keys_12 : decode cX5_keys 12 = .ok (.ireturn, 1) := by decide +kernel
theorem dX5_keys_13 : decode cX5_keys 13 = .ok (.aload_n 0, 1) := by decide +kernel
theorem dX5_keys_14 : decode cX5_keys 14 = .ok (.getfield 25, 3) := by decide +kernel
theorem dX5_keys_17 : decode cX5_keys 17 = .ok (.getfield 66, 3) := by decide +kernel
theorem dX5_keys_20 : decode cX5_keys 20 = .ok (.istore_n 2, 1) := by decide +kernel
theorem dX5_keys_21 : decode cX5_keys 21 = .ok (.aload_n 0, 1) := by decide +kernel
theorem dX5_keys_22 : decode cX5_keys 22 = .ok (.getfield 25, 3) := by decide +kernel
theorem dX5_keys_25 : decode cX5_keys 25 = .ok (.iload_n 1, 1) := by decide +kernel
theorem dX5_keys_26 : decode cX5_keys 26 = .ok (.putfield 66, 3) := by decide +kernel
theorem dX5_keys_29 : decode cX5_keys 29 = .ok (.iload_n 2, 1) := by decide +kernel
theorem dX5_keys_30 : decode cX5_keys 30 = .ok (.ireturn, 1) := by decide +kernel
set_option maxRecDepth 20000 in
theorem ggX5_strike_X0_has : GoodIn wsX5_strike wsX0_has := goodIn_r _ [11, 12, 29, 30, 31, 32, 33] (by decide +kernel) (by decide +kernel)
set_option maxRecDepth 20000 in
theorem gX5_strike_X0_has : GoodIn wsX5_strike (wsV RX5 69 RX0 yX0_has wsX0_has) := goodIn_app (goodIn_of _ (by decide +kernel)) ggX5_strike_X0_has
set_option maxRecDepth 20000 in
theorem ggX5_strike_X5_isString : GoodIn wsX5_strike wsX5_isString := goodIn_r _ [16, 17, 18, 15, 19] (by decide +kernel) (by decide +kernel)
set_option maxRecDepth 20000 in
theorem gX5_strike_X5_isString : GoodIn wsX5_strike (va_wsS RX5 73 yX5_isString wsX5_isString) := goodIn_app (goodIn_of _ (by decide +kernel)) ggX5_strike_X5_isString
set_option maxRecDepth 20000 in
theorem ggX5_strike_X5_within : GoodIn wsX5_strike wsX5_within := goodIn_r _ [19] (by decide +kernel) (by decide +kernel)
set_option maxRecDepth 20000 in
theorem gX5_strike_X5_within : GoodIn wsX5_strike (va_wsS RX5 61 yX5_within wsX5_within) := goodIn_app (goodIn_of _ (by decide +kernel)) ggX5_strike_X5_within
theorem dX5_strike_0 : decode cX5_strike 0 = .ok (.aload_n 0, 1) := by decide +kernel
theorem dX5_strike_1 : decode cX5_strike 1 = .ok (.getfield 25, 3) := by decide +kernel
theorem dX5_strike_4 : decode cX5_strike 4 = .ok (.iload_n 1, 1) := by decide +kernel
theorem dX5_strike_5 : decode cX5_strike 5 = .ok (.invokevirtual 69, 3) := by decide +kernel
theorem dX5_strike_8 : decode cX5_strike 8 = .ok (.ifCond .eq 10, 3) := by decide +kernel
theorem dX5_strike_11 : decode cX5_strike 11 = .ok (.iload_n 2, 1) := by decide +kernel
theorem dX5_strike_12 : decode cX5_strike 12 = .ok (.invokestatic 73, 3) := by decide +kernel
theorem dX5_strike_15 : decode cX5_strike 15 = .ok (.ifCond .ne 6, 3) := by decide +kernel
theorem dX5_strike_18 : decode cX5_strike 18 = .ok (.ldc 76, 2) := by decide +kernel
theorem dX5_strike_20 : decode cX5_strike 20 = .ok (.ireturn, 1) := by decide +kernel
theorem dX5_strike_21 : decode cX5_strike 21 = .ok (.iload_n 3, 1) := by decide +kernel
theorem dX5_strike_22 : decode cX5_strike 22 = .ok (.sipush 500, 3) := by decide +kernel
theorem dX5_strike_25 : decode cX5_strike 25 = .ok (.sipush 9999, 3) := by decide +kernel
theorem dX5_strike_28 : decode cX5_strike 28 = .ok (.invokestatic 61, 3) := by decide +kernel
theorem dX5_strike_31 : decode cX5_strike 31 = .ok (.ifCond .ne 6, 3) := by decide +kernel
theorem dX5_strike_34 : decode cX5_strike 34 = .ok (.ldc 65, 2) := by decide +kernel
theorem dX5_strike_36 : decode cX5_strike 36 = .ok (.ireturn, 1) := by decide +kernel
theorem dX5_strike_37 : decode cX5_strike 37 = .ok (.aload_n 0, 1) := by decide +kernel
theorem dX5_strike_38 : decode cX5_strike 38 = .ok (.getfield 25, 3) := by decide +kernel
theorem dX5_strike_41 : decode cX5_strike 41 = .ok (.getfield 77, 3) := by decide +kernel
theorem dX5_strike_44 : decode cX5_strike 44 = .ok (.iload_n 1, 1) := by decide +kernel
theorem dX5_strike_45 : decode cX5_strike 45 = .ok (.iaload, 1) := by decide +kernel
theorem dX5_strike_46 : decode cX5_strike 46 = .ok (.istore 4, 2) := by decide +kernel
theorem dX5_strike_48 : decode cX5_strike 48 = .ok (.aload_n 0, 1) := by decide +kernel
theorem dX5_strike_49 : decode cX5_strike 49 = .ok (.getfield 25, 3) := by decide +kernel
theorem dX5_strike_52 : decode cX5_strike 52 = .ok (.getfield 77, 3) := by decide +kernel
theorem dX5_strike_55 : decode cX5_strike 55 = .ok (.iload_n 1, 1) := by decide +kernel
theorem dX5_strike_56 : decode cX5_strike 56 = .ok (.iload_n 2, 1) := by decide +kernel
theorem dX5_strike_57 : decode cX5_strike 57 = .ok (.iastore, 1) := by decide +kernel
theorem dX5_strike_58 : decode cX5_strike 58 = .ok (.aload_n 0, 1) := by decide +kernel
theorem dX5_strike_59 : decode cX5_strike 59 = .ok (.getfield 25, 3) := by decide +kernel
theorem dX5_strike_62 : decode cX5_strike 62 = .ok (.getfield 81, 3) := by decide +kernel
theorem dX5_strike_65 : decode cX5_strike 65 = .ok (.iload_n 1, 1) := by decide +kernel
theorem dX5_strike_66 : decode cX5_strike 66 = .ok (.iload_n 3, 1) := by decide +kernel
theorem dX5_strike_67 : decode cX5_strike 67 = .ok (.iastore, 1) := by decide +kernel
theorem dX5_strike_68 : decode cX5_strike 68 = .ok (.aload_n 0, 1) := by decide +kernel
theorem dX5_strike_69 : decode cX5_strike 69 = .ok (.getfield 25, 3) := by decide +kernel
theorem dX5_strike_72 : decode cX5_strike 72 = .ok (.getfield 84, 3) := by decide +kernel
theorem dX5_strike_75 : decode cX5_strike 75 = .ok (.iload_n 1, 1) := by decide +kernel
theorem dX5_strike_76 : decode cX5_strike 76 = .ok (.iconst 0, 1) := by decide +kernel
theorem dX5_strike_77 : decode cX5_strike 77 = .ok (.iastore, 1) := by decide +kernel
theorem dX5_strike_78 : decode cX5_strike 78 = .ok (.iload 4, 2) := by decide +kernel
theorem dX5_strike_80 : decode cX5_strike 80 = .ok (.ireturn, 1) := by decide +kernel
set_option maxRecDepth 20000 in
theorem ggX5_tension_X5_isString : GoodIn wsX5_tension wsX5_isString := goodIn_r _ [8, 9, 10, 7, 11] (by decide +kernel) (by decide +kernel)
set_option maxRecDepth 20000 in
theorem gX5_tension_X5_isString : GoodIn wsX5_tension (va_wsS RX5 73 yX5_isString wsX5_isString) := goodIn_app (goodIn_of _ (by decide +kernel)) ggX5_tension_X5_isString
set_option maxRecDepth 20000 in
theorem ggX5_tension_X5_within : GoodIn wsX5_tension wsX5_within := goodIn_r _ [11] (by decide +kernel) (by decide +kernel)
set_option maxRecDepth 20000 in
theorem gX5_tension_X5_within : GoodIn wsX5_tension (va_wsS RX5 61 yX5_within wsX5_within) := goodIn_app (goodIn_of _ (by decide +kernel)) ggX5_tension_X5_within
theorem dX5_tension_0 : decode cX5_tension 0 = .ok (.iload_n 1, 1) := by decide +kernel
theorem dX5_tension_1 : decode cX5_tension 1 = .ok (.invokestatic 73, 3) := by decide +kernel
theorem dX5_tension_4 : decode cX5_tension 4 = .ok (.ifCond .ne 6, 3) := by decide +kernel
theorem dX5_tension_7 : decode cX5_tension 7 = .ok (.ldc 76, 2) := by decide +kernel
theorem dX5_tension_9 : decode cX5_tension 9 = .ok (.ireturn, 1) := by decide +kernel
theorem dX5_tension_10 : decode cX5_tension 10 = .ok (.iload_n 2, 1) := by decide +kernel
theorem dX5_tension_11 : decode cX5_tension 11 = .ok (.bipush 100, 2) := by decide +kernel
theorem dX5_tension_13 : decode cX5_tension 13 = .ok (.sipush 20000, 3) := by decide +kernel
theorem dX5_tension_16 : decode cX5_tension 16 = .ok (.invokestatic 61, 3) := by decide +kernel
theorem dX5_tension_19 : decode cX5_tension 19 = .ok (.ifCond .ne 6, 3) := by decide +kernel
theorem dX5_tension_22 : decode cX5_tension 22 = .ok (.ldc 65, 2) := by decide +kernel
theorem dX5_tension_24 : decode cX5_tension 24 = .ok (.ireturn, 1) := by decide +kernel
theorem dX5_tension_25 : decode cX5_tension 25 = .ok (.aload_n 0, 1) := by decide +kernel
theorem dX5_tension_26 : decode cX5_tension 26 = .ok (.getfield 25, 3) := by decide +kernel
theorem dX5_tension_29 : decode cX5_tension 29 = .ok (.getfield 87, 3) := by decide +kernel
theorem dX5_tension_32 : decode cX5_tension 32 = .ok (.iload_n 1, 1) := by decide +kernel
theorem dX5_tension_33 : decode cX5_tension 33 = .ok (.iaload, 1) := by decide +kernel
theorem dX5_tension_34 : decode cX5_tension 34 = .ok (.istore_n 3, 1) := by decide +kernel
theorem dX5_tension_35 : decode cX5_tension 35 = .ok (.aload_n 0, 1) := by decide +kernel
theorem dX5_tension_36 : decode cX5_tension 36 = .ok (.getfield 25, 3) := by decide +kernel
theorem dX5_tension_39 : decode cX5_tension 39 = .ok (.getfield 87, 3) := by decide +kernel
theorem dX5_tension_42 : decode cX5_tension 42 = .ok (.iload_n 1, 1) := by decide +kernel
theorem dX5_tension_43 : decode cX5_tension 43 = .ok (.iload_n 2, 1) := by decide +kernel
theorem dX5_tension_44 : decode cX5_tension 44 = .ok (.iastore, 1) := by decide +kernel
theorem dX5_tension_45 : decode cX5_tension 45 = .ok (.iload_n 3, 1) := by decide +kernel
theorem dX5_tension_46 : decode cX5_tension 46 = .ok (.ireturn, 1) := by decide +kernel
set_option maxRecDepth 20000 in
theorem ggX5_bend_X0_has : GoodIn wsX5_bend wsX0_has := goodIn_r _ [9, 10, 24, 25, 26, 27, 28] (by decide +kernel) (by decide +kernel)
set_option maxRecDepth 20000 in
theorem gX5_bend_X0_has : GoodIn wsX5_bend (wsV RX5 69 RX0 yX0_has wsX0_has) := goodIn_app (goodIn_of _ (by decide +kernel)) ggX5_bend_X0_has
set_option maxRecDepth 20000 in
theorem ggX5_bend_X5_within : GoodIn wsX5_bend wsX5_within := goodIn_r _ [14] (by decide +kernel) (by decide +kernel)
set_option maxRecDepth 20000 in
theorem gX5_bend_X5_within : GoodIn wsX5_bend (va_wsS RX5 61 yX5_within wsX5_within) := goodIn_app (goodIn_of _ (by decide +kernel)) ggX5_bend_X5_within
theorem dX5_bend_0 : decode cX5_bend 0 = .ok (.aload_n 0, 1) := by decide +kernel
theorem dX5_bend_1 : decode cX5_bend 1 = .ok (.getfield 25, 3) := by decide +kernel
theorem dX5_bend_4 : decode cX5_bend 4 = .ok (.iload_n 1, 1) := by decide +kernel
theorem dX5_bend_5 : decode cX5_bend 5 = .ok (.invokevirtual 69, 3) := by decide +kernel
theorem dX5_bend_8 : decode cX5_bend 8 = .ok (.ifCond .ne 6, 3) := by decide +kernel
theorem dX5_bend_11 : decode cX5_bend 11 = .ok (.ldc 76, 2) := by decide +kernel
theorem dX5_bend_13 : decode cX5_bend 13 = .ok (.ireturn, 1) := by decide +kernel
theorem dX5_bend_14 : decode cX5_bend 14 = .ok (.iload_n 2, 1) := by decide +kernel
theorem dX5_bend_15 : decode cX5_bend 15 = .ok (.bipush (-40), 2) := by decide +kernel
theorem dX5_bend_17 : decode cX5_bend 17 = .ok (.bipush 40, 2) := by decide +kernel
theorem dX5_bend_19 : decode cX5_bend 19 = .ok (.invokestatic 61, 3) := by decide +kernel
theorem dX5_bend_22 : decode cX5_bend 22 = .ok (.ifCond .ne 6, 3) := by decide +kernel
theorem dX5_bend_25 : decode cX5_bend 25 = .ok (.ldc 65, 2) := by decide +kernel
theorem dX5_bend_27 : decode cX5_bend 27 = .ok (.ireturn, 1) := by decide +kernel
theorem dX5_bend_28 : decode cX5_bend 28 = .ok (.aload_n 0, 1) := by decide +kernel
theorem dX5_bend_29 : decode cX5_bend 29 = .ok (.getfield 25, 3) := by decide +kernel
theorem dX5_bend_32 : decode cX5_bend 32 = .ok (.getfield 84, 3) := by decide +kernel
theorem dX5_bend_35 : decode cX5_bend 35 = .ok (.iload_n 1, 1) := by decide +kernel
theorem dX5_bend_36 : decode cX5_bend 36 = .ok (.iaload, 1) := by decide +kernel
theorem dX5_bend_37 : decode cX5_bend 37 = .ok (.istore_n 3, 1) := by decide +kernel
theorem dX5_bend_38 : decode cX5_bend 38 = .ok (.aload_n 0, 1) := by decide +kernel
theorem dX5_bend_39 : decode cX5_bend 39 = .ok (.getfield 25, 3) := by decide +kernel
theorem dX5_bend_42 : decode cX5_bend 42 = .ok (.getfield 84, 3) := by decide +kernel
theorem dX5_bend_45 : decode cX5_bend 45 = .ok (.iload_n 1, 1) := by decide +kernel
theorem dX5_bend_46 : decode cX5_bend 46 = .ok (.iload_n 2, 1) := by decide +kernel
theorem dX5_bend_47 : decode cX5_bend 47 = .ok (.iastore, 1) := by decide +kernel
theorem dX5_bend_48 : decode cX5_bend 48 = .ok (.iload_n 3, 1) := by decide +kernel
theorem dX5_bend_49 : decode cX5_bend 49 = .ok (.ireturn, 1) := by decide +kernel
set_option maxRecDepth 20000 in
theorem ggX5_about_X0_has : GoodIn wsX5_about wsX0_has := goodIn_r _ [11, 12, 53, 54, 55, 56, 57] (by decide +kernel) (by decide +kernel)
set_option maxRecDepth 20000 in
theorem gX5_about_X0_has : GoodIn wsX5_about (wsV RX5 69 RX0 yX0_has wsX0_has) := goodIn_app (goodIn_of _ (by decide +kernel)) ggX5_about_X0_has
set_option maxRecDepth 20000 in
theorem ggX5_about_X0_toneOf : GoodIn wsX5_about wsX0_toneOf := goodIn_r _ [16, 17, 18, 19, 20, 10, 21, 22, 23, 24, 53, 54, 55, 56, 57] (by decide +kernel) (by decide +kernel)
set_option maxRecDepth 20000 in
theorem gX5_about_X0_toneOf : GoodIn wsX5_about (wsV RX5 90 RX0 yX0_toneOf wsX0_toneOf) := goodIn_app (goodIn_of _ (by decide +kernel)) ggX5_about_X0_toneOf
set_option maxRecDepth 20000 in
theorem ggX5_about_X5_goalOf : GoodIn wsX5_about wsX5_goalOf := goodIn_r _ [29, 30, 31, 32, 33, 34, 35, 36, 37, 38, 39, 44, 45, 46, 47, 48, 49, 50, 51, 52, 58, 59] (by decide +kernel) (by decide +kernel)
set_option maxRecDepth 20000 in
theorem gX5_about_X5_goalOf : GoodIn wsX5_about (wsV RX5 94 RX5 yX5_goalOf wsX5_goalOf) := goodIn_app (goodIn_of _ (by decide +kernel)) ggX5_about_X5_goalOf
set_option maxRecDepth 20000 in
theorem ggX5_about_X5_errorOf : GoodIn wsX5_about wsX5_errorOf := goodIn_r _ [43, 1, 13, 14, 15, 10, 16, 17, 18, 19, 20, 21, 22, 23, 24, 25, 26, 27, 28, 29, 30, 31, 32, 33, 34, 35, 36, 37, 38, 39, 44, 45, 46, 47, 48, 49, 50, 51, 52, 53, 54, 55, 56, 57, 58, 59] (by decide +kernel) (by decide +kernel)
set_option maxRecDepth 20000 in
theorem gX5_about_X5_errorOf : GoodIn wsX5_about (wsV RX5 97 RX5 yX5_errorOf wsX5_errorOf) := goodIn_app (goodIn_of _ (by decide +kernel)) ggX5_about_X5_errorOf
theorem dX5_about_0 : decode cX5_about 0 = .ok (.aload_n 0, 1) := by decide +kernel
theorem dX5_about_1 : decode cX5_about 1 = .ok (.getfield 25, 3) := by decide +kernel
theorem dX5_about_4 : decode cX5_about 4 = .ok (.iload_n 1, 1) := by decide +kernel
theorem dX5_about_5 : decode cX5_about 5 = .ok (.invokevirtual 69, 3) := by decide +kernel
theorem dX5_about_8 : decode cX5_about 8 = .ok (.ifCond .ne 6, 3) := by decide +kernel
theorem dX5_about_11 : decode cX5_about 11 = .ok (.ldc 76, 2) := by decide +kernel
theorem dX5_about_13 : decode cX5_about 13 = .ok (.ireturn, 1) := by decide +kernel
theorem dX5_about_14 : decode cX5_about 14 = .ok (.iload_n 2, 1) := by decide +kernel
theorem dX5_about_15 : decode cX5_about 15 = .ok (.tableswitch 88 0 5 #[37, 47, 57, 67, 76, 82], 37) := by decide +kernel
theorem dX5_about_52 : decode cX5_about 52 = .ok (.aload_n 0, 1) := by decide +kernel
theorem dX5_about_53 : decode cX5_about 53 = .ok (.getfield 25, 3) := by decide +kernel
theorem dX5_about_56 : decode cX5_about 56 = .ok (.getfield 77, 3) := by decide +kernel
theorem dX5_about_59 : decode cX5_about 59 = .ok (.iload_n 1, 1) := by decide +kernel
theorem dX5_about_60 : decode cX5_about 60 = .ok (.iaload, 1) := by decide +kernel
theorem dX5_about_61 : decode cX5_about 61 = .ok (.ireturn, 1) := by decide +kernel
theorem dX5_about_62 : decode cX5_about 62 = .ok (.aload_n 0, 1) := by decide +kernel
theorem dX5_about_63 : decode cX5_about 63 = .ok (.getfield 25, 3) := by decide +kernel
theorem dX5_about_66 : decode cX5_about 66 = .ok (.getfield 81, 3) := by decide +kernel
theorem dX5_about_69 : decode cX5_about 69 = .ok (.iload_n 1, 1) := by decide +kernel
theorem dX5_about_70 : decode cX5_about 70 = .ok (.iaload, 1) := by decide +kernel
theorem dX5_about_71 : decode cX5_about 71 = .ok (.ireturn, 1) := by decide +kernel
theorem dX5_about_72 : decode cX5_about 72 = .ok (.aload_n 0, 1) := by decide +kernel
theorem dX5_about_73 : decode cX5_about 73 = .ok (.getfield 25, 3) := by decide +kernel
theorem dX5_about_76 : decode cX5_about 76 = .ok (.getfield 84, 3) := by decide +kernel
theorem dX5_about_79 : decode cX5_about 79 = .ok (.iload_n 1, 1) := by decide +kernel
theorem dX5_about_80 : decode cX5_about 80 = .ok (.iaload, 1) := by decide +kernel
theorem dX5_about_81 : decode cX5_about 81 = .ok (.ireturn, 1) := by decide +kernel
theorem dX5_about_82 : decode cX5_about 82 = .ok (.aload_n 0, 1) := by decide +kernel
theorem dX5_about_83 : decode cX5_about 83 = .ok (.getfield 25, 3) := by decide +kernel
theorem dX5_about_86 : decode cX5_about 86 = .ok (.iload_n 1, 1) := by decide +kernel
theorem dX5_about_87 : decode cX5_about 87 = .ok (.invokevirtual 90, 3) := by decide +kernel
theorem dX5_about_90 : decode cX5_about 90 = .ok (.ireturn, 1) := by decide +kernel
theorem dX5_about_91 : decode cX5_about 91 = .ok (.aload_n 0, 1) := by decide +kernel
theorem dX5_about_92 : decode cX5_about 92 = .ok (.iload_n 1, 1) := by decide +kernel
theorem dX5_about_93 : decode cX5_about 93 = .ok (.invokevirtual 94, 3) := by decide +kernel
theorem dX5_about_96 : decode cX5_about 96 = .ok (.ireturn, 1) := by decide +kernel
theorem dX5_about_97 : decode cX5_about 97 = .ok (.aload_n 0, 1) := by decide +kernel
theorem dX5_about_98 : decode cX5_about 98 = .ok (.iload_n 1, 1) := by decide +kernel
theorem dX5_about_99 : decode cX5_about 99 = .ok (.invokevirtual 97, 3) := by decide +kernel
theorem dX5_about_102 : decode cX5_about 102 = .ok (.ireturn, 1) := by decide +kernel
theorem dX5_about_103 : decode cX5_about 103 = .ok (.ldc 65, 2) := by decide +kernel
theorem dX5_about_105 : decode cX5_about 105 = .ok (.ireturn, 1) := by decide +kernel
set_option maxRecDepth 20000 in
theorem ggX5_pressed_X0_has : GoodIn wsX5_pressed wsX0_has := goodIn_r _ [8, 9, 35, 36, 37, 38, 39] (by decide +kernel) (by decide +kernel)
set_option maxRecDepth 20000 in
theorem gX5_pressed_X0_has : GoodIn wsX5_pressed (wsV RX5 69 RX0 yX0_has wsX0_has) := goodIn_app (goodIn_of _ (by decide +kernel)) ggX5_pressed_X0_has
set_option maxRecDepth 20000 in
theorem ggX5_pressed_X5_within : GoodIn wsX5_pressed wsX5_within := goodIn_r _ [13] (by decide +kernel) (by decide +kernel)
set_option maxRecDepth 20000 in
theorem gX5_pressed_X5_within : GoodIn wsX5_pressed (va_wsS RX5 61 yX5_within wsX5_within) := goodIn_app (goodIn_of _ (by decide +kernel)) ggX5_pressed_X5_within
set_option maxRecDepth 20000 in
theorem ggX5_pressed_X0_toneOf : GoodIn wsX5_pressed wsX0_toneOf := goodIn_r _ [17, 18, 19, 20, 21, 7, 22, 23, 24, 25, 35, 36, 37, 38, 39] (by decide +kernel) (by decide +kernel)
set_option maxRecDepth 20000 in
theorem gX5_pressed_X0_toneOf : GoodIn wsX5_pressed (wsV RX5 90 RX0 yX0_toneOf wsX0_toneOf) := goodIn_app (goodIn_of _ (by decide +kernel)) ggX5_pressed_X0_toneOf
theorem dX5_pressed_0 : decode cX5_pressed 0 = .ok (.aload_n 0, 1) := by decide +kernel
theorem dX5_pressed_1 : decode cX5_pressed 1 = .ok (.getfield 25, 3) := by decide +kernel
theorem dX5_pressed_4 : decode cX5_pressed 4 = .ok (.iload_n 1, 1) := by decide +kernel
theorem dX5_pressed_5 : decode cX5_pressed 5 = .ok (.invokevirtual 69, 3) := by decide +kernel
theorem dX5_pressed_8 : decode cX5_pressed 8 = .ok (.ifCond .ne 6, 3) := by decide +kernel
theorem dX5_pressed_11 : decode cX5_pressed 11 = .ok (.ldc 76, 2) := by decide +kernel
theorem dX5_pressed_13 : decode cX5_pressed 13 = .ok (.ireturn, 1) := by decide +kernel
theorem dX5_pressed_14 : decode cX5_pressed 14 = .ok (.iload_n 2, 1) := by decide +kernel
theorem dX5_pressed_15 : decode cX5_pressed 15 = .ok (.iconst 0, 1) := by decide +kernel
theorem dX5_pressed_16 : decode cX5_pressed 16 = .ok (.bipush 20, 2) := by decide +kernel
theorem dX5_pressed_18 : decode cX5_pressed 18 = .ok (.invokestatic 61, 3) := by decide +kernel
theorem dX5_pressed_21 : decode cX5_pressed 21 = .ok (.ifCond .ne 6, 3) := by decide +kernel
theorem dX5_pressed_24 : decode cX5_pressed 24 = .ok (.ldc 65, 2) := by decide +kernel
theorem dX5_pressed_26 : decode cX5_pressed 26 = .ok (.ireturn, 1) := by decide +kernel
theorem dX5_pressed_27 : decode cX5_pressed 27 = .ok (.aload_n 0, 1) := by decide +kernel
theorem dX5_pressed_28 : decode cX5_pressed 28 = .ok (.getfield 25, 3) := by decide +kernel
theorem dX5_pressed_31 : decode cX5_pressed 31 = .ok (.iload_n 1, 1) := by decide +kernel
theorem dX5_pressed_32 : decode cX5_pressed 32 = .ok (.invokevirtual 90, 3) := by decide +kernel
theorem dX5_pressed_35 : decode cX5_pressed 35 = .ok (.istore_n 3, 1) := by decide +kernel
theorem dX5_pressed_36 : decode cX5_pressed 36 = .ok (.iload_n 3, 1) := by decide +kernel
theorem dX5_pressed_37 : decode cX5_pressed 37 = .ok (.iload_n 3, 1) := by decide +kernel
theorem dX5_pressed_38 : decode cX5_pressed 38 = .ok (.iload_n 2, 1) := by decide +kernel
theorem dX5_pressed_39 : decode cX5_pressed 39 = .ok (.imul, 1) := by decide +kernel
theorem dX5_pressed_40 : decode cX5_pressed 40 = .ok (.sipush 1000, 3) := by decide +kernel
theorem dX5_pressed_43 : decode cX5_pressed 43 = .ok (.idiv, 1) := by decide +kernel
theorem dX5_pressed_44 : decode cX5_pressed 44 = .ok (.iadd, 1) := by decide +kernel
theorem dX5_pressed_45 : decode cX5_pressed 45 = .ok (.ireturn, 1) := by decide +kernel
set_option maxRecDepth 20000 in
theorem ggX5_sharers_X5_isString : GoodIn wsX5_sharers wsX5_isString := goodIn_r _ [6, 7, 8, 5, 9] (by decide +kernel) (by decide +kernel)
set_option maxRecDepth 20000 in
theorem gX5_sharers_X5_isString : GoodIn wsX5_sharers (va_wsS RX5 73 yX5_isString wsX5_isString) := goodIn_app (goodIn_of _ (by decide +kernel)) ggX5_sharers_X5_isString
set_option maxRecDepth 20000 in
theorem ggX5_sharers_X0_strikersOf : GoodIn wsX5_sharers wsX0_strikersOf := goodIn_r _ [14, 15, 16, 26, 27, 28, 29, 30] (by decide +kernel) (by decide +kernel)
set_option maxRecDepth 20000 in
theorem gX5_sharers_X0_strikersOf : GoodIn wsX5_sharers (wsV RX5 100 RX0 yX0_strikersOf wsX0_strikersOf) := goodIn_app (goodIn_of _ (by decide +kernel)) ggX5_sharers_X0_strikersOf
theorem dX5_sharers_0 : decode cX5_sharers 0 = .ok (.iload_n 1, 1) := by decide +kernel
theorem dX5_sharers_1 : decode cX5_sharers 1 = .ok (.invokestatic 73, 3) := by decide +kernel
theorem dX5_sharers_4 : decode cX5_sharers 4 = .ok (.ifCond .ne 6, 3) := by decide +kernel
theorem dX5_sharers_7 : decode cX5_sharers 7 = .ok (.ldc 76, 2) := by decide +kernel
theorem dX5_sharers_9 : decode cX5_sharers 9 = .ok (.ireturn, 1) := by decide +kernel
theorem dX5_sharers_10 : decode cX5_sharers 10 = .ok (.aload_n 0, 1) := by decide +kernel
theorem dX5_sharers_11 : decode cX5_sharers 11 = .ok (.getfield 25, 3) := by decide +kernel
theorem dX5_sharers_14 : decode cX5_sharers 14 = .ok (.iload_n 1, 1) := by decide +kernel
theorem dX5_sharers_15 : decode cX5_sharers 15 = .ok (.invokevirtual 100, 3) := by decide +kernel
theorem dX5_sharers_18 : decode cX5_sharers 18 = .ok (.ireturn, 1) := by decide +kernel
set_option maxRecDepth 20000 in
theorem ggX5_order_X0_isInOrder : GoodIn wsX5_order wsX0_isInOrder := goodIn_r _ [6, 7, 8, 9, 10, 5, 11, 12, 13, 14, 15, 16, 17, 18, 19, 20, 21, 22, 36, 37, 38, 39, 40] (by decide +kernel) (by decide +kernel)
set_option maxRecDepth 20000 in
theorem gX5_order_X0_isInOrder : GoodIn wsX5_order (wsV RX5 103 RX0 yX0_isInOrder wsX0_isInOrder) := goodIn_app (goodIn_of _ (by decide +kernel)) ggX5_order_X0_isInOrder
set_option maxRecDepth 20000 in
theorem ggX5_order_X5_asNumber : GoodIn wsX5_order wsX5_asNumber := goodIn_r _ [26] (by decide +kernel) (by decide +kernel)
set_option maxRecDepth 20000 in
theorem gX5_order_X5_asNumber : GoodIn wsX5_order (va_wsS RX5 107 yX5_asNumber wsX5_asNumber) := goodIn_app (goodIn_of _ (by decide +kernel)) ggX5_order_X5_asNumber
theorem dX5_order_0 : decode cX5_order 0 = .ok (.aload_n 0, 1) := by decide +kernel
theorem dX5_order_1 : decode cX5_order 1 = .ok (.getfield 25, 3) := by decide +kernel
theorem dX5_order_4 : decode cX5_order 4 = .ok (.invokevirtual 103, 3) := by decide +kernel
theorem dX5_order_7 : decode cX5_order 7 = .ok (.invokestatic 107, 3) := by decide +kernel
theorem dX5_order_10 : decode cX5_order 10 = .ok (.ireturn, 1) := by decide +kernel
set_option maxRecDepth 20000 in
theorem ggX5_step_X5_isScale : GoodIn wsX5_step wsX5_isScale := goodIn_r _ [7, 8, 9, 6, 10] (by decide +kernel) (by decide +kernel)
set_option maxRecDepth 20000 in
theorem gX5_step_X5_isScale : GoodIn wsX5_step (va_wsS RX5 111 yX5_isScale wsX5_isScale) := goodIn_app (goodIn_of _ (by decide +kernel)) ggX5_step_X5_isScale
set_option maxRecDepth 20000 in
theorem ggX5_step_X5_isStep : GoodIn wsX5_step wsX5_isStep := goodIn_r _ [13, 8, 9, 6, 10] (by decide +kernel) (by decide +kernel)
set_option maxRecDepth 20000 in
theorem gX5_step_X5_isStep : GoodIn wsX5_step (va_wsS RX5 114 yX5_isStep wsX5_isStep) := goodIn_app (goodIn_of _ (by decide +kernel)) ggX5_step_X5_isStep
set_option maxRecDepth 20000 in
theorem ggX5_step_X5_within : GoodIn wsX5_step wsX5_within := goodIn_r _ [10] (by decide +kernel) (by decide +kernel)
set_option maxRecDepth 20000 in
theorem gX5_step_X5_within : GoodIn wsX5_step (va_wsS RX5 61 yX5_within wsX5_within) := goodIn_app (goodIn_of _ (by decide +kernel)) ggX5_step_X5_within
set_option maxRecDepth 20000 in
theorem ggX5_step_X3_put : GoodIn wsX5_step wsX3_put := goodIn_r _ [18, 19, 20, 30, 31] (by decide +kernel) (by decide +kernel)
set_option maxRecDepth 20000 in
theorem gX5_step_X3_put : GoodIn wsX5_step (wsV RX5 117 RX3 yX3_put wsX3_put) := goodIn_app (goodIn_of _ (by decide +kernel)) ggX5_step_X3_put
theorem dX5_step_0 : decode cX5_step 0 = .ok (.iload_n 1, 1) := by decide +kernel
theorem dX5_step_1 : decode cX5_step 1 = .ok (.invokestatic 111, 3) := by decide +kernel
theorem dX5_step_4 : decode cX5_step 4 = .ok (.ifCond .eq 10, 3) := by decide +kernel
theorem dX5_step_7 : decode cX5_step 7 = .ok (.iload_n 2, 1) := by decide +kernel
theorem dX5_step_8 : decode cX5_step 8 = .ok (.invokestatic 114, 3) := by decide +kernel
theorem dX5_step_11 : decode cX5_step 11 = .ok (.ifCond .ne 6, 3) := by decide +kernel
theorem dX5_step_14 : decode cX5_step 14 = .ok (.ldc 76, 2) := by decide +kernel
theorem dX5_step_16 : decode cX5_step 16 = .ok (.ireturn, 1) := by decide +kernel
theorem dX5_step_17 : decode cX5_step 17 = .ok (.iload_n 3, 1) := by decide +kernel
theorem dX5_step_18 : decode cX5_step 18 = .ok (.iconst 1, 1) := by decide +kernel
theorem dX5_step_19 : decode cX5_step 19 = .ok (.sipush 999, 3) := by decide +kernel
theorem dX5_step_22 : decode cX5_step 22 = .ok (.invokestatic 61, 3) := by decide +kernel
theorem dX5_step_25 : decode cX5_step 25 = .ok (.ifCond .eq 15, 3) := by decide +kernel
theorem dX5_step_28 : decode cX5_step 28 = .ok (.iload 4, 2) := by decide +kernel
theorem dX5_step_30 : decode cX5_step 30 = .ok (.iconst 1, 1) := by decide +kernel
theorem dX5_step_31 : decode cX5_step 31 = .ok (.sipush 999, 3) := by decide +kernel
theorem dX5_step_34 : decode cX5_step 34 = .ok (.invokestatic 61, 3) := by decide +kernel
theorem dX5_step_37 : decode cX5_step 37 = .ok (.ifCond .ne 6, 3) := by decide +kernel
theorem dX5_step_40 : decode cX5_step 40 = .ok (.ldc 65, 2) := by decide +kernel
theorem dX5_step_42 : decode cX5_step 42 = .ok (.ireturn, 1) := by decide +kernel
theorem dX5_step_43 : decode cX5_step 43 = .ok (.iload_n 3, 1) := by decide +kernel
theorem dX5_step_44 : decode cX5_step 44 = .ok (.iconst 4, 1) := by decide +kernel
theorem dX5_step_45 : decode cX5_step 45 = .ok (.iload 4, 2) := by decide +kernel
theorem dX5_step_47 : decode cX5_step 47 = .ok (.imul, 1) := by decide +kernel
theorem dX5_step_48 : decode cX5_step 48 = .ok (.if_icmp .le 6, 3) := by decide +kernel
theorem dX5_step_51 : decode cX5_step 51 = .ok (.ldc 65, 2) := by decide +kernel
theorem dX5_step_53 : decode cX5_step 53 = .ok (.ireturn, 1) := by decide +kernel
theorem dX5_step_54 : decode cX5_step 54 = .ok (.aload_n 0, 1) := by decide +kernel
theorem dX5_step_55 : decode cX5_step 55 = .ok (.getfield 32, 3) := by decide +kernel
theorem dX5_step_58 : decode cX5_step 58 = .ok (.iload_n 1, 1) := by decide +kernel
theorem dX5_step_59 : decode cX5_step 59 = .ok (.iload_n 2, 1) := by decide +kernel
theorem dX5_step_60 : decode cX5_step 60 = .ok (.iload_n 3, 1) := by decide +kernel
theorem dX5_step_61 : decode cX5_step 61 = .ok (.iload 4, 2) := by decide +kernel
theorem dX5_step_63 : decode cX5_step 63 = .ok (.invokevirtual 117, 3) := by decide +kernel
theorem dX5_step_66 : decode cX5_step 66 = .ok (.iconst 1, 1) := by decide +kernel
theorem dX5_step_67 : decode cX5_step 67 = .ok (.ireturn, 1) := by decide +kernel
set_option maxRecDepth 20000 in
theorem ggX5_share_X5_isScale : GoodIn wsX5_share wsX5_isScale := goodIn_r _ [6, 7, 8, 5, 9] (by decide +kernel) (by decide +kernel)
set_option maxRecDepth 20000 in
theorem gX5_share_X5_isScale : GoodIn wsX5_share (va_wsS RX5 111 yX5_isScale wsX5_isScale) := goodIn_app (goodIn_of _ (by decide +kernel)) ggX5_share_X5_isScale
set_option maxRecDepth 20000 in
theorem ggX5_share_X5_isStep : GoodIn wsX5_share wsX5_isStep := goodIn_r _ [12, 7, 8, 5, 9] (by decide +kernel) (by decide +kernel)
set_option maxRecDepth 20000 in
theorem gX5_share_X5_isStep : GoodIn wsX5_share (va_wsS RX5 114 yX5_isStep wsX5_isStep) := goodIn_app (goodIn_of _ (by decide +kernel)) ggX5_share_X5_isStep
set_option maxRecDepth 20000 in
theorem ggX5_share_X3_partOf : GoodIn wsX5_share wsX3_partOf := goodIn_r _ [17, 18, 19, 29, 30] (by decide +kernel) (by decide +kernel)
set_option maxRecDepth 20000 in
theorem gX5_share_X3_partOf : GoodIn wsX5_share (wsV RX5 121 RX3 yX3_partOf wsX3_partOf) := goodIn_app (goodIn_of _ (by decide +kernel)) ggX5_share_X3_partOf
theorem dX5_share_0 : decode cX5_share 0 = .ok (.iload_n 1, 1) := by decide +kernel
theorem dX5_share_1 : decode cX5_share 1 = .ok (.invokestatic 111, 3) := by decide +kernel
theorem dX5_share_4 : decode cX5_share 4 = .ok (.ifCond .eq 10, 3) := by decide +kernel
theorem dX5_share_7 : decode cX5_share 7 = .ok (.iload_n 2, 1) := by decide +kernel
theorem dX5_share_8 : decode cX5_share 8 = .ok (.invokestatic 114, 3) := by decide +kernel
theorem dX5_share_11 : decode cX5_share 11 = .ok (.ifCond .ne 6, 3) := by decide +kernel
theorem dX5_share_14 : decode cX5_share 14 = .ok (.ldc 76, 2) := by decide +kernel
theorem dX5_share_16 : decode cX5_share 16 = .ok (.ireturn, 1) := by decide +kernel
theorem dX5_share_17 : decode cX5_share 17 = .ok (.aload_n 0, 1) := by decide +kernel
theorem dX5_share_18 : decode cX5_share 18 = .ok (.getfield 32, 3) := by decide +kernel
theorem dX5_share_21 : decode cX5_share 21 = .ok (.iload_n 1, 1) := by decide +kernel
theorem dX5_share_22 : decode cX5_share 22 = .ok (.iload_n 2, 1) := by decide +kernel
theorem dX5_share_23 : decode cX5_share 23 = .ok (.iload_n 3, 1) := by decide +kernel
theorem dX5_share_24 : decode cX5_share 24 = .ok (.invokevirtual 121, 3) := by decide +kernel
theorem dX5_share_27 : decode cX5_share 27 = .ok (.ireturn, 1) := by decide +kernel
set_option maxRecDepth 20000 in
theorem ggX5_use_X5_isScale : GoodIn wsX5_use wsX5_isScale := goodIn_r _ [6, 7, 8, 5, 9] (by decide +kernel) (by decide +kernel)
set_option maxRecDepth 20000 in
theorem gX5_use_X5_isScale : GoodIn wsX5_use (va_wsS RX5 111 yX5_isScale wsX5_isScale) := goodIn_app (goodIn_of _ (by decide +kernel)) ggX5_use_X5_isScale
theorem dX5_use_0 : decode cX5_use 0 = .ok (.iload_n 1, 1) := by decide +kernel
theorem dX5_use_1 : decode cX5_use 1 = .ok (.invokestatic 111, 3) := by decide +kernel
theorem dX5_use_4 : decode cX5_use 4 = .ok (.ifCond .ne 6, 3) := by decide +kernel
theorem dX5_use_7 : decode cX5_use 7 = .ok (.ldc 76, 2) := by decide +kernel
theorem dX5_use_9 : decode cX5_use 9 = .ok (.ireturn, 1) := by decide +kernel
theorem dX5_use_10 : decode cX5_use 10 = .ok (.aload_n 0, 1) := by decide +kernel
theorem dX5_use_11 : decode cX5_use 11 = .ok (.getfield 7, 3) := by decide +kernel
theorem dX5_use_14 : decode cX5_use 14 = .ok (.istore_n 2, 1) := by decide +kernel
theorem dX5_use_15 : decode cX5_use 15 = .ok (.aload_n 0, 1) := by decide +kernel
theorem dX5_use_16 : decode cX5_use 16 = .ok (.iload_n 1, 1) := by decide +kernel
theorem dX5_use_17 : decode cX5_use 17 = .ok (.putfield 7, 3) := by decide +kernel
theorem dX5_use_20 : decode cX5_use 20 = .ok (.iload_n 2, 1) := by decide +kernel
theorem dX5_use_21 : decode cX5_use 21 = .ok (.ireturn, 1) := by decide +kernel
set_option maxRecDepth 20000 in
theorem ggX5_pitch_X5_isPitch : GoodIn wsX5_pitch wsX5_isPitch := goodIn_r _ [6, 7, 8, 9, 5, 10] (by decide +kernel) (by decide +kernel)
set_option maxRecDepth 20000 in
theorem gX5_pitch_X5_isPitch : GoodIn wsX5_pitch (va_wsS RX5 125 yX5_isPitch wsX5_isPitch) := goodIn_app (goodIn_of _ (by decide +kernel)) ggX5_pitch_X5_isPitch
theorem dX5_pitch_0 : decode cX5_pitch 0 = .ok (.iload_n 1, 1) := by decide +kernel
theorem dX5_pitch_1 : decode cX5_pitch 1 = .ok (.invokestatic 125, 3) := by decide +kernel
theorem dX5_pitch_4 : decode cX5_pitch 4 = .ok (.ifCond .ne 6, 3) := by decide +kernel
theorem dX5_pitch_7 : decode cX5_pitch 7 = .ok (.ldc 65, 2) := by decide +kernel
theorem dX5_pitch_9 : decode cX5_pitch 9 = .ok (.ireturn, 1) := by decide +kernel
theorem dX5_pitch_10 : decode cX5_pitch 10 = .ok (.aload_n 0, 1) := by decide +kernel
theorem dX5_pitch_11 : decode cX5_pitch 11 = .ok (.getfield 13, 3) := by decide +kernel
theorem dX5_pitch_14 : decode cX5_pitch 14 = .ok (.istore_n 2, 1) := by decide +kernel
theorem dX5_pitch_15 : decode cX5_pitch 15 = .ok (.aload_n 0, 1) := by decide +kernel
theorem dX5_pitch_16 : decode cX5_pitch 16 = .ok (.iload_n 1, 1) := by decide +kernel
theorem dX5_pitch_17 : decode cX5_pitch 17 = .ok (.putfield 13, 3) := by decide +kernel
theorem dX5_pitch_20 : decode cX5_pitch 20 = .ok (.iload_n 2, 1) := by decide +kernel
theorem dX5_pitch_21 : decode cX5_pitch 21 = .ok (.ireturn, 1) := by decide +kernel
set_option maxRecDepth 20000 in
theorem ggX5_wrong_X5_allErrors : GoodIn wsX5_wrong wsX5_allErrors := goodIn_r _ [5, 6, 7, 8, 9, 10, 11, 12, 13, 14, 4, 15, 16, 17, 18, 19, 20, 21, 22, 23, 24, 25, 26, 27, 28, 29, 30, 31, 32, 33, 34, 35, 36, 37, 38, 39, 40, 41, 42, 43, 44, 45, 46, 47, 48, 49, 50, 51, 52, 53, 54, 55, 56, 57, 58] (by decide +kernel) (by decide +kernel)
set_option maxRecDepth 20000 in
theorem gX5_wrong_X5_allErrors : GoodIn wsX5_wrong (wsV RX5 128 RX5 yX5_allErrors wsX5_allErrors) := goodIn_app (goodIn_of _ (by decide +kernel)) ggX5_wrong_X5_allErrors
theorem dX5_wrong_0 : decode cX5_wrong 0 = .ok (.aload_n 0, 1) := by decide +kernel
theorem dX5_wrong_1 : decode cX5_wrong 1 = .ok (.invokevirtual 128, 3) := by decide +kernel
theorem dX5_wrong_4 : decode cX5_wrong 4 = .ok (.ireturn, 1) := by decide +kernel
set_option maxRecDepth 20000 in
theorem ggX5_tune_X0_has : GoodIn wsX5_tune wsX0_has := goodIn_r _ [7, 8, 59, 60, 61, 62, 63] (by decide +kernel) (by decide +kernel)
set_option maxRecDepth 20000 in
theorem gX5_tune_X0_has : GoodIn wsX5_tune (wsV RX5 69 RX0 yX0_has wsX0_has) := goodIn_app (goodIn_of _ (by decide +kernel)) ggX5_tune_X0_has
set_option maxRecDepth 20000 in
theorem ggX5_tune_X5_tuneOne : GoodIn wsX5_tune wsX5_tuneOne := goodIn_r _ [13, 1, 14, 15, 16, 17, 18, 19, 20, 21, 12, 22, 23, 24, 25, 26, 27, 28, 29, 30, 31, 32, 33, 34, 35, 6, 36, 37, 38, 39, 50, 51, 52, 53, 54, 55, 56, 57, 58, 59, 60, 61, 62, 63, 64, 65] (by decide +kernel) (by decide +kernel)
set_option maxRecDepth 20000 in
theorem gX5_tune_X5_tuneOne : GoodIn wsX5_tune (wsV RX5 132 RX5 yX5_tuneOne wsX5_tuneOne) := goodIn_app (goodIn_of _ (by decide +kernel)) ggX5_tune_X5_tuneOne
set_option maxRecDepth 20000 in
theorem ggX5_tune_X5_errorOf : GoodIn wsX5_tune wsX5_errorOf := goodIn_r _ [43, 1, 44, 45, 46, 6, 47, 48, 49, 34, 35, 36, 37, 38, 39, 19, 20, 21, 12, 22, 23, 24, 25, 26, 27, 28, 29, 30, 31, 32, 50, 51, 52, 53, 54, 55, 56, 57, 58, 59, 60, 61, 62, 63, 64, 65] (by decide +kernel) (by decide +kernel)
set_option maxRecDepth 20000 in
theorem gX5_tune_X5_errorOf : GoodIn wsX5_tune (wsV RX5 97 RX5 yX5_errorOf wsX5_errorOf) := goodIn_app (goodIn_of _ (by decide +kernel)) ggX5_tune_X5_errorOf
theorem dX5_tune_0 : decode cX5_tune 0 = .ok (.aload_n 0, 1) := by decide +kernel
theorem dX5_tune_1 : decode cX5_tune 1 = .ok (.getfield 25, 3) := by decide +kernel
theorem dX5_tune_4 : decode cX5_tune 4 = .ok (.iload_n 1, 1) := by decide +kernel
theorem dX5_tune_5 : decode cX5_tune 5 = .ok (.invokevirtual 69, 3) := by decide +kernel
theorem dX5_tune_8 : decode cX5_tune 8 = .ok (.ifCond .ne 6, 3) := by decide +kernel
theorem dX5_tune_11 : decode cX5_tune 11 = .ok (.ldc 76, 2) := by decide +kernel
theorem dX5_tune_13 : decode cX5_tune 13 = .ok (.ireturn, 1) := by decide +kernel
theorem dX5_tune_14 : decode cX5_tune 14 = .ok (.aload_n 0, 1) := by decide +kernel
theorem dX5_tune_15 : decode cX5_tune 15 = .ok (.iload_n 1, 1) := by decide +kernel
theorem dX5_tune_16 : decode cX5_tune 16 = .ok (.invokevirtual 132, 3) := by decide +kernel
theorem dX5_tune_19 : decode cX5_tune 19 = .ok (.aload_n 0, 1) := by decide +kernel
theorem dX5_tune_20 : decode cX5_tune 20 = .ok (.iload_n 1, 1) := by decide +kernel
theorem dX5_tune_21 : decode cX5_tune 21 = .ok (.invokevirtual 97, 3) := by decide +kernel
theorem dX5_tune_24 : decode cX5_tune 24 = .ok (.ireturn, 1) := by decide +kernel
set_option maxRecDepth 20000 in
theorem ggX5_tuneAll_X5_tuneOne : GoodIn wsX5_tuneAll wsX5_tuneOne := goodIn_r _ [7, 1, 8, 9, 10, 11, 12, 13, 14, 15, 6, 16, 17, 18, 19, 20, 21, 22, 23, 24, 25, 26, 27, 28, 29, 30, 31, 32, 33, 34, 49, 50, 51, 52, 53, 54, 55, 56, 57, 58, 59, 60, 61, 62, 63, 64] (by decide +kernel) (by decide +kernel)
set_option maxRecDepth 20000 in
theorem gX5_tuneAll_X5_tuneOne : GoodIn wsX5_tuneAll (wsV RX5 132 RX5 yX5_tuneOne wsX5_tuneOne) := goodIn_app (goodIn_of _ (by decide +kernel)) ggX5_tuneAll_X5_tuneOne
set_option maxRecDepth 20000 in
theorem ggX5_tuneAll_X5_allErrors : GoodIn wsX5_tuneAll wsX5_allErrors := goodIn_r _ [38, 1, 2, 8, 9, 10, 11, 39, 40, 41, 6, 42, 43, 44, 45, 30, 46, 47, 48, 28, 29, 31, 32, 33, 34, 13, 14, 15, 16, 17, 18, 19, 20, 21, 22, 23, 24, 25, 26, 49, 50, 51, 52, 53, 54, 55, 56, 57, 58, 59, 60, 61, 62, 63, 64] (by decide +kernel) (by decide +kernel)
set_option maxRecDepth 20000 in
theorem gX5_tuneAll_X5_allErrors : GoodIn wsX5_tuneAll (wsV RX5 128 RX5 yX5_allErrors wsX5_allErrors) := goodIn_app (goodIn_of _ (by decide +kernel)) ggX5_tuneAll_X5_allErrors
theorem dX5_tuneAll_0 : decode cX5_tuneAll 0 = .ok (.iconst 0, 1) := by decide +kernel
theorem dX5_tuneAll_1 : decode cX5_tuneAll 1 = .ok (.istore_n 1, 1) := by decide +kernel
theorem dX5_tuneAll_2 : decode cX5_tuneAll 2 = .ok (.iload_n 1, 1) := by decide +kernel
theorem dX5_tuneAll_3 : decode cX5_tuneAll 3 = .ok (.aload_n 0, 1) := by decide +kernel
theorem dX5_tuneAll_4 : decode cX5_tuneAll 4 = .ok (.getfield 25, 3) := by decide +kernel
theorem dX5_tuneAll_7 : decode cX5_tuneAll 7 = .ok (.getfield 66, 3) := by decide +kernel
theorem dX5_tuneAll_10 : decode cX5_tuneAll 10 = .ok (.if_icmp .ge 14, 3) := by decide +kernel
theorem dX5_tuneAll_13 : decode cX5_tuneAll 13 = .ok (.aload_n 0, 1) := by decide +kernel
theorem dX5_tuneAll_14 : decode cX5_tuneAll 14 = .ok (.iload_n 1, 1) := by decide +kernel
theorem dX5_tuneAll_15 : decode cX5_tuneAll 15 = .ok (.invokevirtual 132, 3) := by decide +kernel
theorem dX5_tuneAll_18 : decode cX5_tuneAll 18 = .ok (.iinc 1 1, 3) := by decide +kernel
theorem dX5_tuneAll_21 : decode cX5_tuneAll 21 = .ok (.goto (-19), 3) := by decide +kernel
theorem dX5_tuneAll_24 : decode cX5_tuneAll 24 = .ok (.aload_n 0, 1) := by decide +kernel
theorem dX5_tuneAll_25 : decode cX5_tuneAll 25 = .ok (.invokevirtual 128, 3) := by decide +kernel
theorem dX5_tuneAll_28 : decode cX5_tuneAll 28 = .ok (.ireturn, 1) := by decide +kernel
set_option maxRecDepth 20000 in
theorem ggX5_worst_X5_errorOf : GoodIn wsX5_worst wsX5_errorOf := goodIn_r _ [11, 5, 12, 13, 14, 15, 16, 17, 18, 19, 20, 21, 22, 23, 24, 25, 26, 27, 10, 28, 29, 30, 31, 32, 33, 34, 35, 36, 37, 38, 39, 40, 41, 42, 43, 44, 45, 46, 47, 48, 49, 50, 51, 52, 53, 54] (by decide +kernel) (by decide +kernel)
set_option maxRecDepth 20000 in
theorem gX5_worst_X5_errorOf : GoodIn wsX5_worst (wsV RX5 97 RX5 yX5_errorOf wsX5_errorOf) := goodIn_app (goodIn_of _ (by decide +kernel)) ggX5_worst_X5_errorOf
theorem dX5_worst_0 : decode cX5_worst 0 = .ok (.iconst 0, 1) := by decide +kernel
theorem dX5_worst_1 : decode cX5_worst 1 = .ok (.istore_n 1, 1) := by decide +kernel
theorem dX5_worst_2 : decode cX5_worst 2 = .ok (.aload_n 0, 1) := by decide +kernel
theorem dX5_worst_3 : decode cX5_worst 3 = .ok (.iconst 0, 1) := by decide +kernel
theorem dX5_worst_4 : decode cX5_worst 4 = .ok (.invokevirtual 97, 3) := by decide +kernel
theorem dX5_worst_7 : decode cX5_worst 7 = .ok (.invokestatic 136, 3) := by decide +kernel
theorem dX5_worst_10 : decode cX5_worst 10 = .ok (.istore_n 2, 1) := by decide +kernel
theorem dX5_worst_11 : decode cX5_worst 11 = .ok (.iconst 1, 1) := by decide +kernel
theorem dX5_worst_12 : decode cX5_worst 12 = .ok (.istore_n 3, 1) := by decide +kernel
theorem dX5_worst_13 : decode cX5_worst 13 = .ok (.iload_n 3, 1) := by decide +kernel
theorem dX5_worst_14 : decode cX5_worst 14 = .ok (.aload_n 0, 1) := by decide +kernel
theorem dX5_worst_15 : decode cX5_worst 15 = .ok (.getfield 25, 3) := by decide +kernel
theorem dX5_worst_18 : decode cX5_worst 18 = .ok (.getfield 66, 3) := by decide +kernel
theorem dX5_worst_21 : decode cX5_worst 21 = .ok (.if_icmp .ge 30, 3) := by decide +kernel
theorem dX5_worst_24 : decode cX5_worst 24 = .ok (.aload_n 0, 1) := by decide +kernel
theorem dX5_worst_25 : decode cX5_worst 25 = .ok (.iload_n 3, 1) := by decide +kernel
theorem dX5_worst_26 : decode cX5_worst 26 = .ok (.invokevirtual 97, 3) := by decide +kernel
theorem dX5_worst_29 : decode cX5_worst 29 = .ok (.invokestatic 136, 3) := by decide +kernel
theorem dX5_worst_32 : decode cX5_worst 32 = .ok (.istore 4, 2) := by decide +kernel
theorem dX5_worst_34 : decode cX5_worst 34 = .ok (.iload 4, 2) := by decide +kernel
theorem dX5_worst_36 : decode cX5_worst 36 = .ok (.iload_n 2, 1) := by decide +kernel
theorem dX5_worst_37 : decode cX5_worst 37 = .ok (.if_icmp .le 8, 3) := by decide +kernel
theorem dX5_worst_40 : decode cX5_worst 40 = .ok (.iload 4, 2) := by decide +kernel
theorem dX5_worst_42 : decode cX5_worst 42 = .ok (.istore_n 2, 1) := by decide +kernel
theorem dX5_worst_43 : decode cX5_worst 43 = .ok (.iload_n 3, 1) := by decide +kernel
theorem dX5_worst_44 : decode cX5_worst 44 = .ok (.istore_n 1, 1) := by decide +kernel
theorem dX5_worst_45 : decode cX5_worst 45 = .ok (.iinc 3 1, 3) := by decide +kernel
theorem dX5_worst_48 : decode cX5_worst 48 = .ok (.goto (-35), 3) := by decide +kernel
theorem dX5_worst_51 : decode cX5_worst 51 = .ok (.iload_n 1, 1) := by decide +kernel
theorem dX5_worst_52 : decode cX5_worst 52 = .ok (.ireturn, 1) := by decide +kernel
set_option maxRecDepth 20000 in
theorem ggX5_note_X5_isPiece : GoodIn wsX5_note wsX5_isPiece := goodIn_r _ [9, 10, 11, 8, 12] (by decide +kernel) (by decide +kernel)
set_option maxRecDepth 20000 in
theorem gX5_note_X5_isPiece : GoodIn wsX5_note (va_wsS RX5 141 yX5_isPiece wsX5_isPiece) := goodIn_app (goodIn_of _ (by decide +kernel)) ggX5_note_X5_isPiece
set_option maxRecDepth 20000 in
theorem ggX5_note_X5_within : GoodIn wsX5_note wsX5_within := goodIn_r _ [12] (by decide +kernel) (by decide +kernel)
set_option maxRecDepth 20000 in
theorem gX5_note_X5_within : GoodIn wsX5_note (va_wsS RX5 61 yX5_within wsX5_within) := goodIn_app (goodIn_of _ (by decide +kernel)) ggX5_note_X5_within
set_option maxRecDepth 20000 in
theorem ggX5_note_X1_lastBegin : GoodIn wsX5_note wsX1_lastBegin := goodIn_r _ [17, 18, 19, 20, 21, 22, 16, 23, 43, 44, 45, 46, 47] (by decide +kernel) (by decide +kernel)
set_option maxRecDepth 20000 in
theorem gX5_note_X1_lastBegin : GoodIn wsX5_note (wsV RX5 144 RX1 yX1_lastBegin wsX1_lastBegin) := goodIn_app (goodIn_of _ (by decide +kernel)) ggX5_note_X1_lastBegin
set_option maxRecDepth 20000 in
theorem ggX5_note_X1_isFull : GoodIn wsX5_note wsX1_isFull := goodIn_r _ [27, 18, 43, 44, 45, 46, 47] (by decide +kernel) (by decide +kernel)
set_option maxRecDepth 20000 in
theorem gX5_note_X1_isFull : GoodIn wsX5_note (wsV RX5 148 RX1 yX1_isFull wsX1_isFull) := goodIn_app (goodIn_of _ (by decide +kernel)) ggX5_note_X1_isFull
set_option maxRecDepth 20000 in
theorem ggX5_note_X1_append : GoodIn wsX5_note wsX1_append := goodIn_r _ [31, 32, 19, 33, 18, 20, 21, 22, 16, 23, 43, 44, 45, 46, 47] (by decide +kernel) (by decide +kernel)
set_option maxRecDepth 20000 in
theorem gX5_note_X1_append : GoodIn wsX5_note (wsV RX5 152 RX1 yX1_append wsX1_append) := goodIn_app (goodIn_of _ (by decide +kernel)) ggX5_note_X1_append
theorem dX5_note_0 : decode cX5_note 0 = .ok (.iload_n 1, 1) := by decide +kernel
theorem dX5_note_1 : decode cX5_note 1 = .ok (.invokestatic 141, 3) := by decide +kernel
theorem dX5_note_4 : decode cX5_note 4 = .ok (.ifCond .ne 6, 3) := by decide +kernel
theorem dX5_note_7 : decode cX5_note 7 = .ok (.ldc 76, 2) := by decide +kernel
theorem dX5_note_9 : decode cX5_note 9 = .ok (.ireturn, 1) := by decide +kernel
theorem dX5_note_10 : decode cX5_note 10 = .ok (.iload_n 2, 1) := by decide +kernel
theorem dX5_note_11 : decode cX5_note 11 = .ok (.iconst 0, 1) := by decide +kernel
theorem dX5_note_12 : decode cX5_note 12 = .ok (.bipush 23, 2) := by decide +kernel
theorem dX5_note_14 : decode cX5_note 14 = .ok (.invokestatic 61, 3) := by decide +kernel
theorem dX5_note_17 : decode cX5_note 17 = .ok (.ifCond .ne 6, 3) := by decide +kernel
theorem dX5_note_20 : decode cX5_note 20 = .ok (.ldc 65, 2) := by decide +kernel
theorem dX5_note_22 : decode cX5_note 22 = .ok (.ireturn, 1) := by decide +kernel
theorem dX5_note_23 : decode cX5_note 23 = .ok (.iload_n 3, 1) := by decide +kernel
theorem dX5_note_24 : decode cX5_note 24 = .ok (.iconst 0, 1) := by decide +kernel
theorem dX5_note_25 : decode cX5_note 25 = .ok (.sipush 999, 3) := by decide +kernel
theorem dX5_note_28 : decode cX5_note 28 = .ok (.invokestatic 61, 3) := by decide +kernel
theorem dX5_note_31 : decode cX5_note 31 = .ok (.ifCond .eq 14, 3) := by decide +kernel
theorem dX5_note_34 : decode cX5_note 34 = .ok (.iload 4, 2) := by decide +kernel
theorem dX5_note_36 : decode cX5_note 36 = .ok (.iconst 1, 1) := by decide +kernel
theorem dX5_note_37 : decode cX5_note 37 = .ok (.bipush 99, 2) := by decide +kernel
theorem dX5_note_39 : decode cX5_note 39 = .ok (.invokestatic 61, 3) := by decide +kernel
theorem dX5_note_42 : decode cX5_note 42 = .ok (.ifCond .ne 6, 3) := by decide +kernel
theorem dX5_note_45 : decode cX5_note 45 = .ok (.ldc 65, 2) := by decide +kernel
theorem dX5_note_47 : decode cX5_note 47 = .ok (.ireturn, 1) := by decide +kernel
theorem dX5_note_48 : decode cX5_note 48 = .ok (.iload_n 3, 1) := by decide +kernel
theorem dX5_note_49 : decode cX5_note 49 = .ok (.aload_n 0, 1) := by decide +kernel
theorem dX5_note_50 : decode cX5_note 50 = .ok (.getfield 41, 3) := by decide +kernel
theorem dX5_note_53 : decode cX5_note 53 = .ok (.iload_n 1, 1) := by decide +kernel
theorem dX5_note_54 : decode cX5_note 54 = .ok (.invokevirtual 144, 3) := by decide +kernel
theorem dX5_note_57 : decode cX5_note 57 = .ok (.if_icmp .ge 6, 3) := by decide +kernel
theorem dX5_note_60 : decode cX5_note 60 = .ok (.ldc 147, 2) := by decide +kernel
theorem dX5_note_62 : decode cX5_note 62 = .ok (.ireturn, 1) := by decide +kernel
theorem dX5_note_63 : decode cX5_note 63 = .ok (.aload_n 0, 1) := by decide +kernel
theorem dX5_note_64 : decode cX5_note 64 = .ok (.getfield 41, 3) := by decide +kernel
theorem dX5_note_67 : decode cX5_note 67 = .ok (.iload_n 1, 1) := by decide +kernel
theorem dX5_note_68 : decode cX5_note 68 = .ok (.invokevirtual 148, 3) := by decide +kernel
theorem dX5_note_71 : decode cX5_note 71 = .ok (.ifCond .eq 6, 3) := by decide +kernel
theorem dX5_note_74 : decode cX5_note 74 = .ok (.ldc 151, 2) := by decide +kernel
theorem dX5_note_76 : decode cX5_note 76 = .ok (.ireturn, 1) := by decide +kernel
theorem dX5_note_77 : decode cX5_note 77 = .ok (.aload_n 0, 1) := by decide +kernel
theorem dX5_note_78 : decode cX5_note 78 = .ok (.getfield 41, 3) := by decide +kernel
theorem dX5_note_81 : decode cX5_note 81 = .ok (.iload_n 1, 1) := by decide +kernel
theorem dX5_note_82 : decode cX5_note 82 = .ok (.iload_n 2, 1) := by decide +kernel
theorem dX5_note_83 : decode cX5_note 83 = .ok (.iload_n 3, 1) := by decide +kernel
theorem dX5_note_84 : decode cX5_note 84 = .ok (.iload 4, 2) := by decide +kernel
theorem dX5_note_86 : decode cX5_note 86 = .ok (.invokevirtual 152, 3) := by decide +kernel
theorem dX5_note_89 : decode cX5_note 89 = .ok (.ireturn, 1) := by decide +kernel
set_option maxRecDepth 20000 in
theorem ggX5_wipe_X5_isPiece : GoodIn wsX5_wipe wsX5_isPiece := goodIn_r _ [7, 8, 9, 6, 10] (by decide +kernel) (by decide +kernel)
set_option maxRecDepth 20000 in
theorem gX5_wipe_X5_isPiece : GoodIn wsX5_wipe (va_wsS RX5 141 yX5_isPiece wsX5_isPiece) := goodIn_app (goodIn_of _ (by decide +kernel)) ggX5_wipe_X5_isPiece
theorem dX5_wipe_0 : decode cX5_wipe 0 = .ok (.iload_n 1, 1) := by decide +kernel
theorem dX5_wipe_1 : decode cX5_wipe 1 = .ok (.invokestatic 141, 3) := by decide +kernel
theorem dX5_wipe_4 : decode cX5_wipe 4 = .ok (.ifCond .ne 6, 3) := by decide +kernel
theorem dX5_wipe_7 : decode cX5_wipe 7 = .ok (.ldc 76, 2) := by decide +kernel
theorem dX5_wipe_9 : decode cX5_wipe 9 = .ok (.ireturn, 1) := by decide +kernel
theorem dX5_wipe_10 : decode cX5_wipe 10 = .ok (.aload_n 0, 1) := by decide +kernel
theorem dX5_wipe_11 : decode cX5_wipe 11 = .ok (.getfield 41, 3) := by decide +kernel
theorem dX5_wipe_14 : decode cX5_wipe 14 = .ok (.getfield 156, 3) := by decide +kernel
theorem dX5_wipe_17 : decode cX5_wipe 17 = .ok (.iload_n 1, 1) := by decide +kernel
theorem dX5_wipe_18 : decode cX5_wipe 18 = .ok (.iaload, 1) := by decide +kernel
theorem dX5_wipe_19 : decode cX5_wipe 19 = .ok (.istore_n 2, 1) := by decide +kernel
theorem dX5_wipe_20 : decode cX5_wipe 20 = .ok (.aload_n 0, 1) := by decide +kernel
theorem dX5_wipe_21 : decode cX5_wipe 21 = .ok (.getfield 41, 3) := by decide +kernel
theorem dX5_wipe_24 : decode cX5_wipe 24 = .ok (.getfield 156, 3) := by decide +kernel
theorem dX5_wipe_27 : decode cX5_wipe 27 = .ok (.iload_n 1, 1) := by decide +kernel
theorem dX5_wipe_28 : decode cX5_wipe 28 = .ok (.iconst 0, 1) := by decide +kernel
theorem dX5_wipe_29 : decode cX5_wipe 29 = .ok (.iastore, 1) := by decide +kernel
theorem dX5_wipe_30 : decode cX5_wipe 30 = .ok (.iload_n 2, 1) := by decide +kernel
theorem dX5_wipe_31 : decode cX5_wipe 31 = .ok (.ireturn, 1) := by decide +kernel
set_option maxRecDepth 20000 in
theorem ggX5_rest_X5_within : GoodIn wsX5_rest wsX5_within := goodIn_r _ [6] (by decide +kernel) (by decide +kernel)
set_option maxRecDepth 20000 in
theorem gX5_rest_X5_within : GoodIn wsX5_rest (va_wsS RX5 61 yX5_within wsX5_within) := goodIn_app (goodIn_of _ (by decide +kernel)) ggX5_rest_X5_within
theorem dX5_rest_0 : decode cX5_rest 0 = .ok (.iload_n 1, 1) := by decide +kernel
theorem dX5_rest_1 : decode cX5_rest 1 = .ok (.iconst 0, 1) := by decide +kernel
theorem dX5_rest_2 : decode cX5_rest 2 = .ok (.bipush 20, 2) := by decide +kernel
theorem dX5_rest_4 : decode cX5_rest 4 = .ok (.invokestatic 61, 3) := by decide +kernel
theorem dX5_rest_7 : decode cX5_rest 7 = .ok (.ifCond .ne 6, 3) := by decide +kernel
theorem dX5_rest_10 : decode cX5_rest 10 = .ok (.ldc 65, 2) := by decide +kernel
theorem dX5_rest_12 : decode cX5_rest 12 = .ok (.ireturn, 1) := by decide +kernel
theorem dX5_rest_13 : decode cX5_rest 13 = .ok (.aload_n 0, 1) := by decide +kernel
theorem dX5_rest_14 : decode cX5_rest 14 = .ok (.getfield 16, 3) := by decide +kernel
theorem dX5_rest_17 : decode cX5_rest 17 = .ok (.istore_n 2, 1) := by decide +kernel
theorem dX5_rest_18 : decode cX5_rest 18 = .ok (.aload_n 0, 1) := by decide +kernel
theorem dX5_rest_19 : decode cX5_rest 19 = .ok (.iload_n 1, 1) := by decide +kernel
theorem dX5_rest_20 : decode cX5_rest 20 = .ok (.putfield 16, 3) := by decide +kernel
theorem dX5_rest_23 : decode cX5_rest 23 = .ok (.iload_n 2, 1) := by decide +kernel
theorem dX5_rest_24 : decode cX5_rest 24 = .ok (.ireturn, 1) := by decide +kernel
set_option maxRecDepth 20000 in
theorem ggX5_clashes_X5_isPiece : GoodIn wsX5_clashes wsX5_isPiece := goodIn_r _ [6, 7, 8, 5, 9] (by decide +kernel) (by decide +kernel)
set_option maxRecDepth 20000 in
theorem gX5_clashes_X5_isPiece : GoodIn wsX5_clashes (va_wsS RX5 141 yX5_isPiece wsX5_isPiece) := goodIn_app (goodIn_of _ (by decide +kernel)) ggX5_clashes_X5_isPiece
set_option maxRecDepth 20000 in
theorem ggX5_clashes_X1_countClashes : GoodIn wsX5_clashes wsX1_countClashes := goodIn_r _ [14, 15, 16, 17, 13, 18, 19, 20, 21, 22, 23, 24, 25, 26, 27, 28, 29, 30, 31, 32, 33, 34, 35, 36, 37, 38, 39, 40, 41, 42, 43, 44, 45, 46, 47, 48, 49, 50, 60, 61, 62, 63, 64, 65, 66, 67, 68, 69] (by decide +kernel) (by decide +kernel)
set_option maxRecDepth 20000 in
theorem gX5_clashes_X1_countClashes : GoodIn wsX5_clashes (wsV RX5 159 RX1 yX1_countClashes wsX1_countClashes) := goodIn_app (goodIn_of _ (by decide +kernel)) ggX5_clashes_X1_countClashes
theorem dX5_clashes_0 : decode cX5_clashes 0 = .ok (.iload_n 1, 1) := by decide +kernel
theorem dX5_clashes_1 : decode cX5_clashes 1 = .ok (.invokestatic 141, 3) := by decide +kernel
theorem dX5_clashes_4 : decode cX5_clashes 4 = .ok (.ifCond .ne 6, 3) := by decide +kernel
theorem dX5_clashes_7 : decode cX5_clashes 7 = .ok (.ldc 76, 2) := by decide +kernel
theorem dX5_clashes_9 : decode cX5_clashes 9 = .ok (.ireturn, 1) := by decide +kernel
theorem dX5_clashes_10 : decode cX5_clashes 10 = .ok (.aload_n 0, 1) := by decide +kernel
theorem dX5_clashes_11 : decode cX5_clashes 11 = .ok (.getfield 41, 3) := by decide +kernel
theorem dX5_clashes_14 : decode cX5_clashes 14 = .ok (.iload_n 1, 1) := by decide +kernel
theorem dX5_clashes_15 : decode cX5_clashes 15 = .ok (.invokevirtual 159, 3) := by decide +kernel
theorem dX5_clashes_18 : decode cX5_clashes 18 = .ok (.ireturn, 1) := by decide +kernel
set_option maxRecDepth 20000 in
theorem ggX5_clash_X5_isPiece : GoodIn wsX5_clash wsX5_isPiece := goodIn_r _ [6, 7, 8, 5, 9] (by decide +kernel) (by decide +kernel)
set_option maxRecDepth 20000 in
theorem gX5_clash_X5_isPiece : GoodIn wsX5_clash (va_wsS RX5 141 yX5_isPiece wsX5_isPiece) := goodIn_app (goodIn_of _ (by decide +kernel)) ggX5_clash_X5_isPiece
set_option maxRecDepth 20000 in
theorem ggX5_clash_X1_clashNumbered : GoodIn wsX5_clash wsX1_clashNumbered := goodIn_r _ [14, 15, 16, 17, 18, 13, 19, 20, 21, 22, 23, 24, 25, 26, 27, 28, 29, 30, 31, 32, 33, 34, 35, 36, 37, 38, 39, 40, 41, 42, 43, 44, 45, 46, 47, 48, 49, 50, 51, 61, 62, 63, 64, 65, 66, 67, 68, 69, 70] (by decide +kernel) (by decide +kernel)
set_option maxRecDepth 20000 in
theorem gX5_clash_X1_clashNumbered : GoodIn wsX5_clash (wsV RX5 162 RX1 yX1_clashNumbered wsX1_clashNumbered) := goodIn_app (goodIn_of _ (by decide +kernel)) ggX5_clash_X1_clashNumbered
theorem dX5_clash_0 : decode cX5_clash 0 = .ok (.iload_n 1, 1) := by decide +kernel
theorem dX5_clash_1 : decode cX5_clash 1 = .ok (.invokestatic 141, 3) := by decide +kernel
theorem dX5_clash_4 : decode cX5_clash 4 = .ok (.ifCond .ne 6, 3) := by decide +kernel
theorem dX5_clash_7 : decode cX5_clash 7 = .ok (.ldc 76, 2) := by decide +kernel
theorem dX5_clash_9 : decode cX5_clash 9 = .ok (.ireturn, 1) := by decide +kernel
theorem dX5_clash_10 : decode cX5_clash 10 = .ok (.aload_n 0, 1) := by decide +kernel
theorem dX5_clash_11 : decode cX5_clash 11 = .ok (.getfield 41, 3) := by decide +kernel
theorem dX5_clash_14 : decode cX5_clash 14 = .ok (.iload_n 1, 1) := by decide +kernel
theorem dX5_clash_15 : decode cX5_clash 15 = .ok (.iload_n 2, 1) := by decide +kernel
theorem dX5_clash_16 : decode cX5_clash 16 = .ok (.invokevirtual 162, 3) := by decide +kernel
theorem dX5_clash_19 : decode cX5_clash 19 = .ok (.ireturn, 1) := by decide +kernel
set_option maxRecDepth 20000 in
theorem ggX5_chokes_X5_isPiece : GoodIn wsX5_chokes wsX5_isPiece := goodIn_r _ [7, 8, 9, 6, 10] (by decide +kernel) (by decide +kernel)
set_option maxRecDepth 20000 in
theorem gX5_chokes_X5_isPiece : GoodIn wsX5_chokes (va_wsS RX5 141 yX5_isPiece wsX5_isPiece) := goodIn_app (goodIn_of _ (by decide +kernel)) ggX5_chokes_X5_isPiece
set_option maxRecDepth 20000 in
theorem ggX5_chokes_X1_countChokes : GoodIn wsX5_chokes wsX1_countChokes := goodIn_r _ [15, 16, 17, 18, 19, 20, 21, 14, 22, 23, 24, 25, 26, 27, 28, 29, 30, 31, 32, 33, 34, 35, 36, 37, 38, 39, 40, 41, 42, 43, 53, 54, 55, 56, 57, 58, 59, 60, 61, 62] (by decide +kernel) (by decide +kernel)
set_option maxRecDepth 20000 in
theorem gX5_chokes_X1_countChokes : GoodIn wsX5_chokes (wsV RX5 166 RX1 yX1_countChokes wsX1_countChokes) := goodIn_app (goodIn_of _ (by decide +kernel)) ggX5_chokes_X1_countChokes
theorem dX5_chokes_0 : decode cX5_chokes 0 = .ok (.iload_n 1, 1) := by decide +kernel
theorem dX5_chokes_1 : decode cX5_chokes 1 = .ok (.invokestatic 141, 3) := by decide +kernel
theorem dX5_chokes_4 : decode cX5_chokes 4 = .ok (.ifCond .ne 6, 3) := by decide +kernel
theorem dX5_chokes_7 : decode cX5_chokes 7 = .ok (.ldc 76, 2) := by decide +kernel
theorem dX5_chokes_9 : decode cX5_chokes 9 = .ok (.ireturn, 1) := by decide +kernel
theorem dX5_chokes_10 : decode cX5_chokes 10 = .ok (.aload_n 0, 1) := by decide +kernel
theorem dX5_chokes_11 : decode cX5_chokes 11 = .ok (.getfield 41, 3) := by decide +kernel
theorem dX5_chokes_14 : decode cX5_chokes 14 = .ok (.iload_n 1, 1) := by decide +kernel
theorem dX5_chokes_15 : decode cX5_chokes 15 = .ok (.aload_n 0, 1) := by decide +kernel
theorem dX5_chokes_16 : decode cX5_chokes 16 = .ok (.getfield 16, 3) := by decide +kernel
theorem dX5_chokes_19 : decode cX5_chokes 19 = .ok (.invokevirtual 166, 3) := by decide +kernel
theorem dX5_chokes_22 : decode cX5_chokes 22 = .ok (.ireturn, 1) := by decide +kernel
set_option maxRecDepth 20000 in
theorem ggX5_trills_X5_isPiece : GoodIn wsX5_trills wsX5_isPiece := goodIn_r _ [6, 7, 8, 5, 9] (by decide +kernel) (by decide +kernel)
set_option maxRecDepth 20000 in
theorem gX5_trills_X5_isPiece : GoodIn wsX5_trills (va_wsS RX5 141 yX5_isPiece wsX5_isPiece) := goodIn_app (goodIn_of _ (by decide +kernel)) ggX5_trills_X5_isPiece
set_option maxRecDepth 20000 in
theorem ggX5_trills_X1_countTrills : GoodIn wsX5_trills wsX1_countTrills := goodIn_r _ [14, 15, 16, 17, 18, 19, 13, 20, 21, 22, 23, 24, 25, 26, 27, 28, 29, 30, 31, 32, 33, 34, 35, 36, 37, 38, 39, 40, 41, 42, 43, 44, 45, 46, 47, 48, 49, 50, 60, 61, 62, 63, 64, 65, 66, 67, 68, 69] (by decide +kernel) (by decide +kernel)
set_option maxRecDepth 20000 in
theorem gX5_trills_X1_countTrills : GoodIn wsX5_trills (wsV RX5 169 RX1 yX1_countTrills wsX1_countTrills) := goodIn_app (goodIn_of _ (by decide +kernel)) ggX5_trills_X1_countTrills
theorem dX5_trills_0 : decode cX5_trills 0 = .ok (.iload_n 1, 1) := by decide +kernel
theorem dX5_trills_1 : decode cX5_trills 1 = .ok (.invokestatic 141, 3) := by decide +kernel
theorem dX5_trills_4 : decode cX5_trills 4 = .ok (.ifCond .ne 6, 3) := by decide +kernel
theorem dX5_trills_7 : decode cX5_trills 7 = .ok (.ldc 76, 2) := by decide +kernel
theorem dX5_trills_9 : decode cX5_trills 9 = .ok (.ireturn, 1) := by decide +kernel
theorem dX5_trills_10 : decode cX5_trills 10 = .ok (.aload_n 0, 1) := by decide +kernel
theorem dX5_trills_11 : decode cX5_trills 11 = .ok (.getfield 41, 3) := by decide +kernel
theorem dX5_trills_14 : decode cX5_trills 14 = .ok (.iload_n 1, 1) := by decide +kernel
theorem dX5_trills_15 : decode cX5_trills 15 = .ok (.iload_n 2, 1) := by decide +kernel
theorem dX5_trills_16 : decode cX5_trills 16 = .ok (.invokevirtual 169, 3) := by decide +kernel
theorem dX5_trills_19 : decode cX5_trills 19 = .ok (.ireturn, 1) := by decide +kernel
set_option maxRecDepth 20000 in
theorem ggX5_heard_X5_isPiece : GoodIn wsX5_heard wsX5_isPiece := goodIn_r _ [7, 8, 9, 6, 10] (by decide +kernel) (by decide +kernel)
set_option maxRecDepth 20000 in
theorem gX5_heard_X5_isPiece : GoodIn wsX5_heard (va_wsS RX5 141 yX5_isPiece wsX5_isPiece) := goodIn_app (goodIn_of _ (by decide +kernel)) ggX5_heard_X5_isPiece
set_option maxRecDepth 20000 in
theorem ggX5_heard_X5_isString : GoodIn wsX5_heard wsX5_isString := goodIn_r _ [13, 8, 9, 6, 10] (by decide +kernel) (by decide +kernel)
set_option maxRecDepth 20000 in
theorem gX5_heard_X5_isString : GoodIn wsX5_heard (va_wsS RX5 73 yX5_isString wsX5_isString) := goodIn_app (goodIn_of _ (by decide +kernel)) ggX5_heard_X5_isString
set_option maxRecDepth 20000 in
theorem ggX5_heard_X5_within : GoodIn wsX5_heard wsX5_within := goodIn_r _ [10] (by decide +kernel) (by decide +kernel)
set_option maxRecDepth 20000 in
theorem gX5_heard_X5_within : GoodIn wsX5_heard (va_wsS RX5 61 yX5_within wsX5_within) := goodIn_app (goodIn_of _ (by decide +kernel)) ggX5_heard_X5_within
set_option maxRecDepth 20000 in
theorem ggX5_heard_X1_keyHeard : GoodIn wsX5_heard wsX1_keyHeard := goodIn_r _ [18, 19, 20, 21, 22, 23, 24, 17, 25, 26, 27, 28, 29, 30, 31, 32, 33, 34, 35, 36, 37, 38, 39, 40, 41, 42, 43, 44, 45, 46, 47, 48, 49, 50, 51, 52, 53, 54, 55, 56, 57, 58, 59, 60, 61, 71, 72, 73, 74, 75, 76, 77, 78, 79, 80] (by decide +kernel) (by decide +kernel)
set_option maxRecDepth 20000 in
theorem gX5_heard_X1_keyHeard : GoodIn wsX5_heard (wsV RX5 173 RX1 yX1_keyHeard wsX1_keyHeard) := goodIn_app (goodIn_of _ (by decide +kernel)) ggX5_heard_X1_keyHeard
theorem dX5_heard_0 : decode cX5_heard 0 = .ok (.iload_n 1, 1) := by decide +kernel
theorem dX5_heard_1 : decode cX5_heard 1 = .ok (.invokestatic 141, 3) := by decide +kernel
theorem dX5_heard_4 : decode cX5_heard 4 = .ok (.ifCond .eq 10, 3) := by decide +kernel
theorem dX5_heard_7 : decode cX5_heard 7 = .ok (.iload_n 2, 1) := by decide +kernel
theorem dX5_heard_8 : decode cX5_heard 8 = .ok (.invokestatic 73, 3) := by decide +kernel
theorem dX5_heard_11 : decode cX5_heard 11 = .ok (.ifCond .ne 6, 3) := by decide +kernel
theorem dX5_heard_14 : decode cX5_heard 14 = .ok (.ldc 76, 2) := by decide +kernel
theorem dX5_heard_16 : decode cX5_heard 16 = .ok (.ireturn, 1) := by decide +kernel
theorem dX5_heard_17 : decode cX5_heard 17 = .ok (.iload_n 3, 1) := by decide +kernel
theorem dX5_heard_18 : decode cX5_heard 18 = .ok (.iconst 0, 1) := by decide +kernel
theorem dX5_heard_19 : decode cX5_heard 19 = .ok (.sipush 1100, 3) := by decide +kernel
theorem dX5_heard_22 : decode cX5_heard 22 = .ok (.invokestatic 61, 3) := by decide +kernel
theorem dX5_heard_25 : decode cX5_heard 25 = .ok (.ifCond .ne 6, 3) := by decide +kernel
theorem dX5_heard_28 : decode cX5_heard 28 = .ok (.ldc 65, 2) := by decide +kernel
theorem dX5_heard_30 : decode cX5_heard 30 = .ok (.ireturn, 1) := by decide +kernel
theorem dX5_heard_31 : decode cX5_heard 31 = .ok (.aload_n 0, 1) := by decide +kernel
theorem dX5_heard_32 : decode cX5_heard 32 = .ok (.getfield 41, 3) := by decide +kernel
theorem dX5_heard_35 : decode cX5_heard 35 = .ok (.iload_n 1, 1) := by decide +kernel
theorem dX5_heard_36 : decode cX5_heard 36 = .ok (.iload_n 2, 1) := by decide +kernel
theorem dX5_heard_37 : decode cX5_heard 37 = .ok (.iload_n 3, 1) := by decide +kernel
theorem dX5_heard_38 : decode cX5_heard 38 = .ok (.invokevirtual 173, 3) := by decide +kernel
theorem dX5_heard_41 : decode cX5_heard 41 = .ok (.ireturn, 1) := by decide +kernel
set_option maxRecDepth 20000 in
theorem ggX5_lost_X5_isPiece : GoodIn wsX5_lost wsX5_isPiece := goodIn_r _ [7, 8, 9, 6, 10] (by decide +kernel) (by decide +kernel)
set_option maxRecDepth 20000 in
theorem gX5_lost_X5_isPiece : GoodIn wsX5_lost (va_wsS RX5 141 yX5_isPiece wsX5_isPiece) := goodIn_app (goodIn_of _ (by decide +kernel)) ggX5_lost_X5_isPiece
set_option maxRecDepth 20000 in
theorem ggX5_lost_X0_has : GoodIn wsX5_lost wsX0_has := goodIn_r _ [15, 16, 78, 79, 80, 81, 82] (by decide +kernel) (by decide +kernel)
set_option maxRecDepth 20000 in
theorem gX5_lost_X0_has : GoodIn wsX5_lost (wsV RX5 69 RX0 yX0_has wsX0_has) := goodIn_app (goodIn_of _ (by decide +kernel)) ggX5_lost_X0_has
set_option maxRecDepth 20000 in
theorem ggX5_lost_X1_ticksLost : GoodIn wsX5_lost wsX1_ticksLost := goodIn_r _ [21, 22, 23, 24, 25, 26, 27, 28, 29, 30, 31, 32, 20, 33, 34, 35, 36, 37, 38, 39, 40, 41, 42, 43, 44, 45, 46, 47, 48, 49, 50, 51, 14, 52, 53, 54, 12, 13, 15, 16, 55, 56, 57, 58, 59, 60, 61, 62, 63, 64, 65, 66, 67, 68, 83, 84, 85, 86, 87, 78, 79, 80, 81, 82] (by decide +kernel) (by decide +kernel)
set_option maxRecDepth 20000 in
theorem gX5_lost_X1_ticksLost : GoodIn wsX5_lost (wsV RX5 177 RX1 yX1_ticksLost wsX1_ticksLost) := goodIn_app (goodIn_of _ (by decide +kernel)) ggX5_lost_X1_ticksLost
theorem dX5_lost_0 : decode cX5_lost 0 = .ok (.iload_n 1, 1) := by decide +kernel
theorem dX5_lost_1 : decode cX5_lost 1 = .ok (.invokestatic 141, 3) := by decide +kernel
theorem dX5_lost_4 : decode cX5_lost 4 = .ok (.ifCond .eq 14, 3) := by decide +kernel
theorem dX5_lost_7 : decode cX5_lost 7 = .ok (.aload_n 0, 1) := by decide +kernel
theorem dX5_lost_8 : decode cX5_lost 8 = .ok (.getfield 25, 3) := by decide +kernel
theorem dX5_lost_11 : decode cX5_lost 11 = .ok (.iload_n 2, 1) := by decide +kernel
theorem dX5_lost_12 : decode cX5_lost 12 = .ok (.invokevirtual 69, 3) := by decide +kernel
theorem dX5_lost_15 : decode cX5_lost 15 = .ok (.ifCond .ne 6, 3) := by decide +kernel
theorem dX5_lost_18 : decode cX5_lost 18 = .ok (.ldc 76, 2) := by decide +kernel
theorem dX5_lost_20 : decode cX5_lost 20 = .ok (.ireturn, 1) := by decide +kernel
theorem dX5_lost_21 : decode cX5_lost 21 = .ok (.aload_n 0, 1) := by decide +kernel
theorem dX5_lost_22 : decode cX5_lost 22 = .ok (.getfield 41, 3) := by decide +kernel
theorem dX5_lost_25 : decode cX5_lost 25 = .ok (.iload_n 1, 1) := by decide +kernel
theorem dX5_lost_26 : decode cX5_lost 26 = .ok (.iload_n 2, 1) := by decide +kernel
theorem dX5_lost_27 : decode cX5_lost 27 = .ok (.invokevirtual 177, 3) := by decide +kernel
theorem dX5_lost_30 : decode cX5_lost 30 = .ok (.ireturn, 1) := by decide +kernel
set_option maxRecDepth 20000 in
theorem ggX5_passes_X5_isPiece : GoodIn wsX5_passes wsX5_isPiece := goodIn_r _ [6, 7, 8, 5, 9] (by decide +kernel) (by decide +kernel)
set_option maxRecDepth 20000 in
theorem gX5_passes_X5_isPiece : GoodIn wsX5_passes (va_wsS RX5 141 yX5_isPiece wsX5_isPiece) := goodIn_app (goodIn_of _ (by decide +kernel)) ggX5_passes_X5_isPiece
set_option maxRecDepth 20000 in
theorem ggX5_passes_X1_allKeysThere : GoodIn wsX5_passes wsX1_allKeysThere := goodIn_r _ [14, 15, 16, 17, 18, 19, 13, 20, 21, 22, 23, 24, 25, 26, 27, 28, 29, 30, 31, 68, 69, 70, 71, 72, 73, 74, 75, 76, 77] (by decide +kernel) (by decide +kernel)
set_option maxRecDepth 20000 in
theorem gX5_passes_X1_allKeysThere : GoodIn wsX5_passes (wsV RX5 180 RX1 yX1_allKeysThere wsX1_allKeysThere) := goodIn_app (goodIn_of _ (by decide +kernel)) ggX5_passes_X1_allKeysThere
set_option maxRecDepth 20000 in
theorem ggX5_passes_X1_countClashes : GoodIn wsX5_passes wsX1_countClashes := goodIn_r _ [35, 17, 18, 19, 13, 20, 21, 22, 23, 24, 25, 36, 37, 38, 39, 15, 16, 40, 41, 42, 29, 43, 44, 45, 27, 28, 30, 31, 46, 47, 48, 49, 50, 51, 52, 53, 54, 55, 68, 69, 70, 71, 72, 73, 74, 75, 76, 77] (by decide +kernel) (by decide +kernel)
set_option maxRecDepth 20000 in
theorem gX5_passes_X1_countClashes : GoodIn wsX5_passes (wsV RX5 159 RX1 yX1_countClashes wsX1_countClashes) := goodIn_app (goodIn_of _ (by decide +kernel)) ggX5_passes_X1_countClashes
set_option maxRecDepth 20000 in
theorem ggX5_passes_X5_asNumber : GoodIn wsX5_passes wsX5_asNumber := goodIn_r _ [58] (by decide +kernel) (by decide +kernel)
set_option maxRecDepth 20000 in
theorem gX5_passes_X5_asNumber : GoodIn wsX5_passes (va_wsS RX5 107 yX5_asNumber wsX5_asNumber) := goodIn_app (goodIn_of _ (by decide +kernel)) ggX5_passes_X5_asNumber
theorem dX5_passes_0 : decode cX5_passes 0 = .ok (.iload_n 1, 1) := by decide +kernel
theorem dX5_passes_1 : decode cX5_passes 1 = .ok (.invokestatic 141, 3) := by decide +kernel
theorem dX5_passes_4 : decode cX5_passes 4 = .ok (.ifCond .ne 6, 3) := by decide +kernel
theorem dX5_passes_7 : decode cX5_passes 7 = .ok (.ldc 76, 2) := by decide +kernel
theorem dX5_passes_9 : decode cX5_passes 9 = .ok (.ireturn, 1) := by decide +kernel
theorem dX5_passes_10 : decode cX5_passes 10 = .ok (.aload_n 0, 1) := by decide +kernel
theorem dX5_passes_11 : decode cX5_passes 11 = .ok (.getfield 41, 3) := by decide +kernel
theorem dX5_passes_14 : decode cX5_passes 14 = .ok (.iload_n 1, 1) := by decide +kernel
theorem dX5_passes_15 : decode cX5_passes 15 = .ok (.invokevirtual 180, 3) := by decide +kernel
theorem dX5_passes_18 : decode cX5_passes 18 = .ok (.ifCond .eq 18, 3) := by decide +kernel
theorem dX5_passes_21 : decode cX5_passes 21 = .ok (.aload_n 0, 1) := by decide +kernel
theorem dX5_passes_22 : decode cX5_passes 22 = .ok (.getfield 41, 3) := by decide +kernel
theorem dX5_passes_25 : decode cX5_passes 25 = .ok (.iload_n 1, 1) := by decide +kernel
theorem dX5_passes_26 : decode cX5_passes 26 = .ok (.invokevirtual 159, 3) := by decide +kernel
theorem dX5_passes_29 : decode cX5_passes 29 = .ok (.ifCond .ne 7, 3) := by decide +kernel
theorem dX5_passes_32 : decode cX5_passes 32 = .ok (.iconst 1, 1) := by decide +kernel
theorem dX5_passes_33 : decode cX5_passes 33 = .ok (.goto 4, 3) := by decide +kernel
theorem dX5_passes_36 : decode cX5_passes 36 = .ok (.iconst 0, 1) := by decide +kernel
theorem dX5_passes_37 : decode cX5_passes 37 = .ok (.invokestatic 107, 3) := by decide +kernel
theorem dX5_passes_40 : decode cX5_passes 40 = .ok (.ireturn, 1) := by decide +kernel
set_option maxRecDepth 20000 in
theorem ggX5_book_X5_within : GoodIn wsX5_book wsX5_within := goodIn_r _ [6] (by decide +kernel) (by decide +kernel)
set_option maxRecDepth 20000 in
theorem gX5_book_X5_within : GoodIn wsX5_book (va_wsS RX5 61 yX5_within wsX5_within) := goodIn_app (goodIn_of _ (by decide +kernel)) ggX5_book_X5_within
theorem dX5_book_0 : decode cX5_book 0 = .ok (.iload_n 1, 1) := by decide +kernel
theorem dX5_book_1 : decode cX5_book 1 = .ok (.iconst 0, 1) := by decide +kernel
theorem dX5_book_2 : decode cX5_book 2 = .ok (.bipush 15, 2) := by decide +kernel
theorem dX5_book_4 : decode cX5_book 4 = .ok (.invokestatic 61, 3) := by decide +kernel
theorem dX5_book_7 : decode cX5_book 7 = .ok (.ifCond .ne 6, 3) := by decide +kernel
theorem dX5_book_10 : decode cX5_book 10 = .ok (.ldc 65, 2) := by decide +kernel
theorem dX5_book_12 : decode cX5_book 12 = .ok (.ireturn, 1) := by decide +kernel
theorem dX5_book_13 : decode cX5_book 13 = .ok (.aload_n 0, 1) := by decide +kernel
theorem dX5_book_14 : decode cX5_book 14 = .ok (.getfield 19, 3) := by decide +kernel
theorem dX5_book_17 : decode cX5_book 17 = .ok (.istore_n 2, 1) := by decide +kernel
theorem dX5_book_18 : decode cX5_book 18 = .ok (.aload_n 0, 1) := by decide +kernel
theorem dX5_book_19 : decode cX5_book 19 = .ok (.iload_n 1, 1) := by decide +kernel
theorem dX5_book_20 : decode cX5_book 20 = .ok (.putfield 19, 3) := by decide +kernel
theorem dX5_book_23 : decode cX5_book 23 = .ok (.iload_n 2, 1) := by decide +kernel
theorem dX5_book_24 : decode cX5_book 24 = .ok (.ireturn, 1) := by decide +kernel
set_option maxRecDepth 20000 in
theorem ggX5_together_X0_has : GoodIn wsX5_together wsX0_has := goodIn_r _ [11, 12, 72, 73, 74, 75, 76] (by decide +kernel) (by decide +kernel)
set_option maxRecDepth 20000 in
theorem gX5_together_X0_has : GoodIn wsX5_together (wsV RX5 69 RX0 yX0_has wsX0_has) := goodIn_app (goodIn_of _ (by decide +kernel)) ggX5_together_X0_has
set_option maxRecDepth 20000 in
theorem ggX5_together_X4_gather : GoodIn wsX5_together wsX4_gather := goodIn_r _ [17, 18, 19, 20, 21, 16, 22, 23, 24, 25, 26, 27, 28, 29, 30, 31, 32, 33, 34, 35, 36, 37, 38, 39, 40, 41, 42, 43, 44, 45, 46, 47, 48, 49, 50, 51, 52, 53, 54, 77, 78, 79, 80, 81, 82, 83, 84, 85, 86] (by decide +kernel) (by decide +kernel)
set_option maxRecDepth 20000 in
theorem gX5_together_X4_gather : GoodIn wsX5_together (wsV RX5 183 RX4 yX4_gather wsX4_gather) := goodIn_app (goodIn_of _ (by decide +kernel)) ggX5_together_X4_gather
set_option maxRecDepth 20000 in
theorem ggX5_together_X4_clashesOf : GoodIn wsX5_together wsX4_clashesOf := goodIn_r _ [58, 59, 60, 61, 16, 62, 18, 77, 78, 79, 80, 81] (by decide +kernel) (by decide +kernel)
set_option maxRecDepth 20000 in
theorem gX5_together_X4_clashesOf : GoodIn wsX5_together (wsV RX5 187 RX4 yX4_clashesOf wsX4_clashesOf) := goodIn_app (goodIn_of _ (by decide +kernel)) ggX5_together_X4_clashesOf
theorem dX5_together_0 : decode cX5_together 0 = .ok (.aload_n 0, 1) := by decide +kernel
theorem dX5_together_1 : decode cX5_together 1 = .ok (.getfield 25, 3) := by decide +kernel
theorem dX5_together_4 : decode cX5_together 4 = .ok (.iload_n 1, 1) := by decide +kernel
theorem dX5_together_5 : decode cX5_together 5 = .ok (.invokevirtual 69, 3) := by decide +kernel
theorem dX5_together_8 : decode cX5_together 8 = .ok (.ifCond .eq 14, 3) := by decide +kernel
theorem dX5_together_11 : decode cX5_together 11 = .ok (.aload_n 0, 1) := by decide +kernel
theorem dX5_together_12 : decode cX5_together 12 = .ok (.getfield 25, 3) := by decide +kernel
theorem dX5_together_15 : decode cX5_together 15 = .ok (.iload_n 2, 1) := by decide +kernel
theorem dX5_together_16 : decode cX5_together 16 = .ok (.invokevirtual 69, 3) := by decide +kernel
theorem dX5_together_19 : decode cX5_together 19 = .ok (.ifCond .ne 6, 3) := by decide +kernel
theorem dX5_together_22 : decode cX5_together 22 = .ok (.ldc 76, 2) := by decide +kernel
theorem dX5_together_24 : decode cX5_together 24 = .ok (.ireturn, 1) := by decide +kernel
theorem dX5_together_25 : decode cX5_together 25 = .ok (.iload_n 2, 1) := by decide +kernel
theorem dX5_together_26 : decode cX5_together 26 = .ok (.iload_n 1, 1) := by decide +kernel
theorem dX5_together_27 : decode cX5_together 27 = .ok (.if_icmp .ge 6, 3) := by decide +kernel
theorem dX5_together_30 : decode cX5_together 30 = .ok (.ldc 65, 2) := by decide +kernel
theorem dX5_together_32 : decode cX5_together 32 = .ok (.ireturn, 1) := by decide +kernel
theorem dX5_together_33 : decode cX5_together 33 = .ok (.aload_n 0, 1) := by decide +kernel
theorem dX5_together_34 : decode cX5_together 34 = .ok (.getfield 48, 3) := by decide +kernel
theorem dX5_together_37 : decode cX5_together 37 = .ok (.aload_n 0, 1) := by decide +kernel
theorem dX5_together_38 : decode cX5_together 38 = .ok (.getfield 41, 3) := by decide +kernel
theorem dX5_together_41 : decode cX5_together 41 = .ok (.aload_n 0, 1) := by decide +kernel
theorem dX5_together_42 : decode cX5_together 42 = .ok (.getfield 19, 3) := by decide +kernel
theorem dX5_together_45 : decode cX5_together 45 = .ok (.invokevirtual 183, 3) := by decide +kernel
theorem dX5_together_48 : decode cX5_together 48 = .ok (.aload_n 0, 1) := by decide +kernel
theorem dX5_together_49 : decode cX5_together 49 = .ok (.getfield 48, 3) := by decide +kernel
theorem dX5_together_52 : decode cX5_together 52 = .ok (.iload_n 1, 1) := by decide +kernel
theorem dX5_together_53 : decode cX5_together 53 = .ok (.iload_n 2, 1) := by decide +kernel
theorem dX5_together_54 : decode cX5_together 54 = .ok (.invokevirtual 187, 3) := by decide +kernel
theorem dX5_together_57 : decode cX5_together 57 = .ok (.ireturn, 1) := by decide +kernel
set_option maxRecDepth 20000 in
theorem ggX5_fewest_X5_isMost : GoodIn wsX5_fewest wsX5_isMost := goodIn_r _ [5, 6, 7, 4, 8] (by decide +kernel) (by decide +kernel)
set_option maxRecDepth 20000 in
theorem gX5_fewest_X5_isMost : GoodIn wsX5_fewest (va_wsS RX5 190 yX5_isMost wsX5_isMost) := goodIn_app (goodIn_of _ (by decide +kernel)) ggX5_fewest_X5_isMost
set_option maxRecDepth 20000 in
theorem ggX5_fewest_X5_findStrings : GoodIn wsX5_fewest wsX5_findStrings := goodIn_r _ [12, 13, 14, 15, 16, 17, 18, 19, 20, 21, 22, 23, 24, 25, 26, 27, 28, 29, 30, 31, 32, 33, 34, 35, 36, 37, 38, 39, 40, 41, 42, 43, 44, 45, 46, 47, 48, 49, 50, 51, 52, 53, 54, 55, 56, 57, 58, 59, 60, 61, 62, 63, 64, 65, 66, 67, 68, 69, 70, 71, 72, 73, 74, 75, 76, 77, 78, 79, 80, 81, 82, 83, 84, 85, 86, 87, 88, 89, 90, 91, 92, 93, 94, 95, 96, 97, 98, 99, 100, 101, 102, 103, 104, 105, 106, 107, 108, 109, 110, 111, 112] (by decide +kernel) (by decide +kernel)
set_option maxRecDepth 20000 in
theorem gX5_fewest_X5_findStrings : GoodIn wsX5_fewest (wsV RX5 193 RX5 yX5_findStrings wsX5_findStrings) := goodIn_app (goodIn_of _ (by decide +kernel)) ggX5_fewest_X5_findStrings
theorem dX5_fewest_0 : decode cX5_fewest 0 = .ok (.iload_n 1, 1) := by decide +kernel
theorem dX5_fewest_1 : decode cX5_fewest 1 = .ok (.invokestatic 190, 3) := by decide +kernel
theorem dX5_fewest_4 : decode cX5_fewest 4 = .ok (.ifCond .ne 6, 3) := by decide +kernel
theorem dX5_fewest_7 : decode cX5_fewest 7 = .ok (.ldc 65, 2) := by decide +kernel
theorem dX5_fewest_9 : decode cX5_fewest 9 = .ok (.ireturn, 1) := by decide +kernel
theorem dX5_fewest_10 : decode cX5_fewest 10 = .ok (.aload_n 0, 1) := by decide +kernel
theorem dX5_fewest_11 : decode cX5_fewest 11 = .ok (.iload_n 1, 1) := by decide +kernel
theorem dX5_fewest_12 : decode cX5_fewest 12 = .ok (.iconst 0, 1) := by decide +kernel
theorem dX5_fewest_13 : decode cX5_fewest 13 = .ok (.invokevirtual 193, 3) := by decide +kernel
theorem dX5_fewest_16 : decode cX5_fewest 16 = .ok (.ireturn, 1) := by decide +kernel
set_option maxRecDepth 20000 in
theorem ggX5_least_X5_isMost : GoodIn wsX5_least wsX5_isMost := goodIn_r _ [7, 8, 9, 6, 10] (by decide +kernel) (by decide +kernel)
set_option maxRecDepth 20000 in
theorem gX5_least_X5_isMost : GoodIn wsX5_least (va_wsS RX5 190 yX5_isMost wsX5_isMost) := goodIn_app (goodIn_of _ (by decide +kernel)) ggX5_least_X5_isMost
set_option maxRecDepth 20000 in
theorem ggX5_least_X5_within : GoodIn wsX5_least wsX5_within := goodIn_r _ [10] (by decide +kernel) (by decide +kernel)
set_option maxRecDepth 20000 in
theorem gX5_least_X5_within : GoodIn wsX5_least (va_wsS RX5 61 yX5_within wsX5_within) := goodIn_app (goodIn_of _ (by decide +kernel)) ggX5_least_X5_within
set_option maxRecDepth 20000 in
theorem ggX5_least_X5_findStrings : GoodIn wsX5_least wsX5_findStrings := goodIn_r _ [14, 3, 15, 16, 17, 18, 19, 20, 21, 22, 23, 24, 25, 26, 27, 28, 29, 30, 31, 32, 33, 34, 35, 36, 37, 38, 39, 40, 41, 42, 43, 44, 45, 46, 47, 48, 49, 50, 51, 52, 53, 54, 55, 56, 57, 58, 59, 60, 61, 62, 63, 64, 65, 66, 67, 68, 69, 70, 71, 72, 73, 74, 75, 76, 77, 78, 79, 80, 81, 82, 83, 84, 85, 86, 87, 88, 89, 91, 92, 93, 94, 95, 96, 97, 98, 99, 100, 101, 102, 103, 104, 105, 106, 107, 108, 109, 110, 111, 112, 113, 114] (by decide +kernel) (by decide +kernel)
set_option maxRecDepth 20000 in
theorem gX5_least_X5_findStrings : GoodIn wsX5_least (wsV RX5 193 RX5 yX5_findStrings wsX5_findStrings) := goodIn_app (goodIn_of _ (by decide +kernel)) ggX5_least_X5_findStrings
set_option maxRecDepth 20000 in
theorem ggX5_least_X4_leastWith : GoodIn wsX5_least wsX4_leastWith := goodIn_r _ [84, 67, 105, 106, 107, 108, 109] (by decide +kernel) (by decide +kernel)
set_option maxRecDepth 20000 in
theorem gX5_least_X4_leastWith : GoodIn wsX5_least (wsV RX5 197 RX4 yX4_leastWith wsX4_leastWith) := goodIn_app (goodIn_of _ (by decide +kernel)) ggX5_least_X4_leastWith
theorem dX5_least_0 : decode cX5_least 0 = .ok (.iload_n 1, 1) := by decide +kernel
theorem dX5_least_1 : decode cX5_least 1 = .ok (.invokestatic 190, 3) := by decide +kernel
theorem dX5_least_4 : decode cX5_least 4 = .ok (.ifCond .eq 13, 3) := by decide +kernel
theorem dX5_least_7 : decode cX5_least 7 = .ok (.iload_n 2, 1) := by decide +kernel
theorem dX5_least_8 : decode cX5_least 8 = .ok (.iconst 1, 1) := by decide +kernel
theorem dX5_least_9 : decode cX5_least 9 = .ok (.bipush 24, 2) := by decide +kernel
theorem dX5_least_11 : decode cX5_least 11 = .ok (.invokestatic 61, 3) := by decide +kernel
theorem dX5_least_14 : decode cX5_least 14 = .ok (.ifCond .ne 6, 3) := by decide +kernel
theorem dX5_least_17 : decode cX5_least 17 = .ok (.ldc 65, 2) := by decide +kernel
theorem dX5_least_19 : decode cX5_least 19 = .ok (.ireturn, 1) := by decide +kernel
theorem dX5_least_20 : decode cX5_least 20 = .ok (.aload_n 0, 1) := by decide +kernel
theorem dX5_least_21 : decode cX5_least 21 = .ok (.iload_n 1, 1) := by decide +kernel
theorem dX5_least_22 : decode cX5_least 22 = .ok (.iload_n 2, 1) := by decide +kernel
theorem dX5_least_23 : decode cX5_least 23 = .ok (.invokevirtual 193, 3) := by decide +kernel
theorem dX5_least_26 : decode cX5_least 26 = .ok (.istore_n 3, 1) := by decide +kernel
theorem dX5_least_27 : decode cX5_least 27 = .ok (.iload_n 3, 1) := by decide +kernel
theorem dX5_least_28 : decode cX5_least 28 = .ok (.ldc 196, 2) := by decide +kernel
theorem dX5_least_30 : decode cX5_least 30 = .ok (.if_icmp .ne 8, 3) := by decide +kernel
theorem dX5_least_33 : decode cX5_least 33 = .ok (.ldc 196, 2) := by decide +kernel
theorem dX5_least_35 : decode cX5_least 35 = .ok (.goto 11, 3) := by decide +kernel
theorem dX5_least_38 : decode cX5_least 38 = .ok (.aload_n 0, 1) := by decide +kernel
theorem dX5_least_39 : decode cX5_least 39 = .ok (.getfield 48, 3) := by decide +kernel
theorem dX5_least_42 : decode cX5_least 42 = .ok (.iload_n 3, 1) := by decide +kernel
theorem dX5_least_43 : decode cX5_least 43 = .ok (.invokevirtual 197, 3) := by decide +kernel
theorem dX5_least_46 : decode cX5_least 46 = .ok (.ireturn, 1) := by decide +kernel
set_option maxRecDepth 20000 in
theorem ggX5_group_X0_has : GoodIn wsX5_group wsX0_has := goodIn_r _ [11, 12, 121, 122, 123, 124, 125] (by decide +kernel) (by decide +kernel)
set_option maxRecDepth 20000 in
theorem gX5_group_X0_has : GoodIn wsX5_group (wsV RX5 69 RX0 yX0_has wsX0_has) := goodIn_app (goodIn_of _ (by decide +kernel)) ggX5_group_X0_has
set_option maxRecDepth 20000 in
theorem ggX5_group_X5_isMost : GoodIn wsX5_group wsX5_isMost := goodIn_r _ [16, 17, 18, 15, 19] (by decide +kernel) (by decide +kernel)
set_option maxRecDepth 20000 in
theorem gX5_group_X5_isMost : GoodIn wsX5_group (va_wsS RX5 190 yX5_isMost wsX5_isMost) := goodIn_app (goodIn_of _ (by decide +kernel)) ggX5_group_X5_isMost
set_option maxRecDepth 20000 in
theorem ggX5_group_X5_within : GoodIn wsX5_group wsX5_within := goodIn_r _ [19] (by decide +kernel) (by decide +kernel)
set_option maxRecDepth 20000 in
theorem gX5_group_X5_within : GoodIn wsX5_group (va_wsS RX5 61 yX5_within wsX5_within) := goodIn_app (goodIn_of _ (by decide +kernel)) ggX5_group_X5_within
set_option maxRecDepth 20000 in
theorem ggX5_group_X5_findStrings : GoodIn wsX5_group wsX5_findStrings := goodIn_r _ [23, 5, 24, 25, 1, 26, 27, 28, 29, 30, 31, 32, 33, 34, 35, 36, 37, 38, 39, 40, 41, 42, 43, 44, 45, 46, 47, 48, 49, 50, 51, 52, 53, 54, 55, 56, 57, 58, 59, 60, 61, 62, 63, 64, 65, 66, 67, 68, 69, 70, 71, 72, 73, 74, 75, 76, 77, 78, 79, 80, 81, 82, 83, 84, 85, 86, 87, 88, 89, 90, 91, 92, 93, 94, 95, 96, 97, 107, 108, 109, 110, 111, 112, 113, 114, 115, 121, 122, 123, 124, 125, 116, 117, 118, 119, 120, 126, 127, 128, 129, 130] (by decide +kernel) (by decide +kernel)
set_option maxRecDepth 20000 in
theorem gX5_group_X5_findStrings : GoodIn wsX5_group (wsV RX5 193 RX5 yX5_findStrings wsX5_findStrings) := goodIn_app (goodIn_of _ (by decide +kernel)) ggX5_group_X5_findStrings
set_option maxRecDepth 20000 in
theorem ggX5_group_X4_layOut : GoodIn wsX5_group wsX4_layOut := goodIn_r _ [101, 102, 103, 104, 105, 30, 106, 73, 74, 75, 81, 82, 83, 84, 32, 116, 117, 118, 119, 120] (by decide +kernel) (by decide +kernel)
set_option maxRecDepth 20000 in
theorem gX5_group_X4_layOut : GoodIn wsX5_group (wsV RX5 200 RX4 yX4_layOut wsX4_layOut) := goodIn_app (goodIn_of _ (by decide +kernel)) ggX5_group_X4_layOut
theorem dX5_group_0 : decode cX5_group 0 = .ok (.aload_n 0, 1) := by decide +kernel
theorem dX5_group_1 : decode cX5_group 1 = .ok (.getfield 25, 3) := by decide +kernel
theorem dX5_group_4 : decode cX5_group 4 = .ok (.iload_n 3, 1) := by decide +kernel
theorem dX5_group_5 : decode cX5_group 5 = .ok (.invokevirtual 69, 3) := by decide +kernel
theorem dX5_group_8 : decode cX5_group 8 = .ok (.ifCond .ne 6, 3) := by decide +kernel
theorem dX5_group_11 : decode cX5_group 11 = .ok (.ldc 76, 2) := by decide +kernel
theorem dX5_group_13 : decode cX5_group 13 = .ok (.ireturn, 1) := by decide +kernel
theorem dX5_group_14 : decode cX5_group 14 = .ok (.iload_n 1, 1) := by decide +kernel
theorem dX5_group_15 : decode cX5_group 15 = .ok (.invokestatic 190, 3) := by decide +kernel
theorem dX5_group_18 : decode cX5_group 18 = .ok (.ifCond .eq 13, 3) := by decide +kernel
theorem dX5_group_21 : decode cX5_group 21 = .ok (.iload_n 2, 1) := by decide +kernel
theorem dX5_group_22 : decode cX5_group 22 = .ok (.iconst 0, 1) := by decide +kernel
theorem dX5_group_23 : decode cX5_group 23 = .ok (.bipush 24, 2) := by decide +kernel
theorem dX5_group_25 : decode cX5_group 25 = .ok (.invokestatic 61, 3) := by decide +kernel
theorem dX5_group_28 : decode cX5_group 28 = .ok (.ifCond .ne 6, 3) := by decide +kernel
theorem dX5_group_31 : decode cX5_group 31 = .ok (.ldc 65, 2) := by decide +kernel
theorem dX5_group_33 : decode cX5_group 33 = .ok (.ireturn, 1) := by decide +kernel
theorem dX5_group_34 : decode cX5_group 34 = .ok (.aload_n 0, 1) := by decide +kernel
theorem dX5_group_35 : decode cX5_group 35 = .ok (.iload_n 1, 1) := by decide +kernel
theorem dX5_group_36 : decode cX5_group 36 = .ok (.iload_n 2, 1) := by decide +kernel
theorem dX5_group_37 : decode cX5_group 37 = .ok (.invokevirtual 193, 3) := by decide +kernel
theorem dX5_group_40 : decode cX5_group 40 = .ok (.istore 4, 2) := by decide +kernel
theorem dX5_group_42 : decode cX5_group 42 = .ok (.iload 4, 2) := by decide +kernel
theorem dX5_group_44 : decode cX5_group 44 = .ok (.ldc 196, 2) := by decide +kernel
theorem dX5_group_46 : decode cX5_group 46 = .ok (.if_icmp .ne 6, 3) := by decide +kernel
theorem dX5_group_49 : decode cX5_group 49 = .ok (.ldc 196, 2) := by decide +kernel
theorem dX5_group_51 : decode cX5_group 51 = .ok (.ireturn, 1) := by decide +kernel
theorem dX5_group_52 : decode cX5_group 52 = .ok (.aload_n 0, 1) := by decide +kernel
theorem dX5_group_53 : decode cX5_group 53 = .ok (.getfield 48, 3) := by decide +kernel
theorem dX5_group_56 : decode cX5_group 56 = .ok (.iload 4, 2) := by decide +kernel
theorem dX5_group_58 : decode cX5_group 58 = .ok (.invokevirtual 200, 3) := by decide +kernel
theorem dX5_group_61 : decode cX5_group 61 = .ok (.aload_n 0, 1) := by decide +kernel
theorem dX5_group_62 : decode cX5_group 62 = .ok (.getfield 48, 3) := by decide +kernel
theorem dX5_group_65 : decode cX5_group 65 = .ok (.getfield 203, 3) := by decide +kernel
theorem dX5_group_68 : decode cX5_group 68 = .ok (.iload_n 3, 1) := by decide +kernel
theorem dX5_group_69 : decode cX5_group 69 = .ok (.iaload, 1) := by decide +kernel
theorem dX5_group_70 : decode cX5_group 70 = .ok (.ireturn, 1) := by decide +kernel
set_option maxRecDepth 20000 in
theorem ggX5_setUp_X5_isMost : GoodIn wsX5_setUp wsX5_isMost := goodIn_r _ [11, 12, 13, 10, 14] (by decide +kernel) (by decide +kernel)
set_option maxRecDepth 20000 in
theorem gX5_setUp_X5_isMost : GoodIn wsX5_setUp (va_wsS RX5 190 yX5_isMost wsX5_isMost) := goodIn_app (goodIn_of _ (by decide +kernel)) ggX5_setUp_X5_isMost
set_option maxRecDepth 20000 in
theorem ggX5_setUp_X5_within : GoodIn wsX5_setUp wsX5_within := goodIn_r _ [14] (by decide +kernel) (by decide +kernel)
set_option maxRecDepth 20000 in
theorem gX5_setUp_X5_within : GoodIn wsX5_setUp (va_wsS RX5 61 yX5_within wsX5_within) := goodIn_app (goodIn_of _ (by decide +kernel)) ggX5_setUp_X5_within
set_option maxRecDepth 20000 in
theorem ggX5_setUp_X5_findStrings : GoodIn wsX5_setUp wsX5_findStrings := goodIn_r _ [18, 3, 19, 20, 4, 5, 21, 22, 23, 24, 25, 26, 27, 28, 29, 30, 31, 32, 33, 34, 35, 36, 37, 38, 39, 40, 41, 42, 43, 44, 45, 46, 47, 48, 49, 50, 51, 52, 53, 54, 55, 56, 57, 58, 59, 60, 61, 62, 63, 64, 65, 66, 67, 68, 69, 70, 71, 72, 73, 74, 75, 76, 77, 78, 79, 80, 81, 82, 83, 84, 85, 86, 87, 88, 89, 90, 91, 101, 102, 103, 104, 105, 106, 107, 108, 109, 110, 111, 112, 113, 114, 115, 116, 117, 118, 119, 120, 121, 122, 123, 124] (by decide +kernel) (by decide +kernel)
set_option maxRecDepth 20000 in
theorem gX5_setUp_X5_findStrings : GoodIn wsX5_setUp (wsV RX5 193 RX5 yX5_findStrings wsX5_findStrings) := goodIn_app (goodIn_of _ (by decide +kernel)) ggX5_setUp_X5_findStrings
set_option maxRecDepth 20000 in
theorem ggX5_setUp_X4_layOut : GoodIn wsX5_setUp wsX4_layOut := goodIn_r _ [95, 96, 97, 98, 99, 24, 100, 67, 68, 69, 75, 76, 77, 78, 26, 115, 116, 117, 118, 119] (by decide +kernel) (by decide +kernel)
set_option maxRecDepth 20000 in
theorem gX5_setUp_X4_layOut : GoodIn wsX5_setUp (wsV RX5 200 RX4 yX4_layOut wsX4_layOut) := goodIn_app (goodIn_of _ (by decide +kernel)) ggX5_setUp_X4_layOut
theorem dX5_setUp_0 : decode cX5_setUp 0 = .ok (.iload_n 1, 1) := by decide +kernel
theorem dX5_setUp_1 : decode cX5_setUp 1 = .ok (.invokestatic 190, 3) := by decide +kernel
theorem dX5_setUp_4 : decode cX5_setUp 4 = .ok (.ifCond .eq 13, 3) := by decide +kernel
theorem dX5_setUp_7 : decode cX5_setUp 7 = .ok (.iload_n 2, 1) := by decide +kernel
theorem dX5_setUp_8 : decode cX5_setUp 8 = .ok (.iconst 0, 1) := by decide +kernel
theorem dX5_setUp_9 : decode cX5_setUp 9 = .ok (.bipush 24, 2) := by decide +kernel
theorem dX5_setUp_11 : decode cX5_setUp 11 = .ok (.invokestatic 61, 3) := by decide +kernel
theorem dX5_setUp_14 : decode cX5_setUp 14 = .ok (.ifCond .ne 6, 3) := by decide +kernel
theorem dX5_setUp_17 : decode cX5_setUp 17 = .ok (.ldc 65, 2) := by decide +kernel
theorem dX5_setUp_19 : decode cX5_setUp 19 = .ok (.ireturn, 1) := by decide +kernel
theorem dX5_setUp_20 : decode cX5_setUp 20 = .ok (.aload_n 0, 1) := by decide +kernel
theorem dX5_setUp_21 : decode cX5_setUp 21 = .ok (.iload_n 1, 1) := by decide +kernel
theorem dX5_setUp_22 : decode cX5_setUp 22 = .ok (.iload_n 2, 1) := by decide +kernel
theorem dX5_setUp_23 : decode cX5_setUp 23 = .ok (.invokevirtual 193, 3) := by decide +kernel
theorem dX5_setUp_26 : decode cX5_setUp 26 = .ok (.istore_n 3, 1) := by decide +kernel
theorem dX5_setUp_27 : decode cX5_setUp 27 = .ok (.iload_n 3, 1) := by decide +kernel
theorem dX5_setUp_28 : decode cX5_setUp 28 = .ok (.ldc 196, 2) := by decide +kernel
theorem dX5_setUp_30 : decode cX5_setUp 30 = .ok (.if_icmp .ne 6, 3) := by decide +kernel
theorem dX5_setUp_33 : decode cX5_setUp 33 = .ok (.ldc 196, 2) := by decide +kernel
theorem dX5_setUp_35 : decode cX5_setUp 35 = .ok (.ireturn, 1) := by decide +kernel
theorem dX5_setUp_36 : decode cX5_setUp 36 = .ok (.aload_n 0, 1) := by decide +kernel
theorem dX5_setUp_37 : decode cX5_setUp 37 = .ok (.getfield 48, 3) := by decide +kernel
theorem dX5_setUp_40 : decode cX5_setUp 40 = .ok (.iload_n 3, 1) := by decide +kernel
theorem dX5_setUp_41 : decode cX5_setUp 41 = .ok (.invokevirtual 200, 3) := by decide +kernel
theorem dX5_setUp_44 : decode cX5_setUp 44 = .ok (.iconst 0, 1) := by decide +kernel
theorem dX5_setUp_45 : decode cX5_setUp 45 = .ok (.istore 4, 2) := by decide +kernel
theorem dX5_setUp_47 : decode cX5_setUp 47 = .ok (.iload 4, 2) := by decide +kernel
theorem dX5_setUp_49 : decode cX5_setUp 49 = .ok (.aload_n 0, 1) := by decide +kernel
theorem dX5_setUp_50 : decode cX5_setUp 50 = .ok (.getfield 25, 3) := by decide +kernel
theorem dX5_setUp_53 : decode cX5_setUp 53 = .ok (.getfield 66, 3) := by decide +kernel
theorem dX5_setUp_56 : decode cX5_setUp 56 = .ok (.if_icmp .ge 29, 3) := by decide +kernel
theorem dX5_setUp_59 : decode cX5_setUp 59 = .ok (.aload_n 0, 1) := by decide +kernel
theorem dX5_setUp_60 : decode cX5_setUp 60 = .ok (.getfield 25, 3) := by decide +kernel
theorem dX5_setUp_63 : decode cX5_setUp 63 = .ok (.getfield 77, 3) := by decide +kernel
theorem dX5_setUp_66 : decode cX5_setUp 66 = .ok (.iload 4, 2) := by decide +kernel
theorem dX5_setUp_68 : decode cX5_setUp 68 = .ok (.aload_n 0, 1) := by decide +kernel
theorem dX5_setUp_69 : decode cX5_setUp 69 = .ok (.getfield 48, 3) := by decide +kernel
theorem dX5_setUp_72 : decode cX5_setUp 72 = .ok (.getfield 203, 3) := by decide +kernel
theorem dX5_setUp_75 : decode cX5_setUp 75 = .ok (.iload 4, 2) := by decide +kernel
theorem dX5_setUp_77 : decode cX5_setUp 77 = .ok (.iaload, 1) := by decide +kernel
theorem dX5_setUp_78 : decode cX5_setUp 78 = .ok (.iastore, 1) := by decide +kernel
theorem dX5_setUp_79 : decode cX5_setUp 79 = .ok (.iinc 4 1, 3) := by decide +kernel
theorem dX5_setUp_82 : decode cX5_setUp 82 = .ok (.goto (-35), 3) := by decide +kernel
theorem dX5_setUp_85 : decode cX5_setUp 85 = .ok (.iload_n 3, 1) := by decide +kernel
theorem dX5_setUp_86 : decode cX5_setUp 86 = .ok (.ireturn, 1) := by decide +kernel
set_option maxRecDepth 20000 in
theorem ggX5_measure_X0_has : GoodIn wsX5_measure wsX0_has := goodIn_r _ [12, 13, 32, 33, 34, 35, 36] (by decide +kernel) (by decide +kernel)
set_option maxRecDepth 20000 in
theorem gX5_measure_X0_has : GoodIn wsX5_measure (wsV RX5 69 RX0 yX0_has wsX0_has) := goodIn_app (goodIn_of _ (by decide +kernel)) ggX5_measure_X0_has
set_option maxRecDepth 20000 in
theorem ggX5_measure_X5_within : GoodIn wsX5_measure wsX5_within := goodIn_r _ [17] (by decide +kernel) (by decide +kernel)
set_option maxRecDepth 20000 in
theorem gX5_measure_X5_within : GoodIn wsX5_measure (va_wsS RX5 61 yX5_within wsX5_within) := goodIn_app (goodIn_of _ (by decide +kernel)) ggX5_measure_X5_within
theorem dX5_measure_0 : decode cX5_measure 0 = .ok (.aload_n 0, 1) := by decide +kernel
theorem dX5_measure_1 : decode cX5_measure 1 = .ok (.getfield 25, 3) := by decide +kernel
theorem dX5_measure_4 : decode cX5_measure 4 = .ok (.iload_n 1, 1) := by decide +kernel
theorem dX5_measure_5 : decode cX5_measure 5 = .ok (.invokevirtual 69, 3) := by decide +kernel
theorem dX5_measure_8 : decode cX5_measure 8 = .ok (.ifCond .ne 6, 3) := by decide +kernel
theorem dX5_measure_11 : decode cX5_measure 11 = .ok (.ldc 76, 2) := by decide +kernel
theorem dX5_measure_13 : decode cX5_measure 13 = .ok (.ireturn, 1) := by decide +kernel
theorem dX5_measure_14 : decode cX5_measure 14 = .ok (.iload_n 2, 1) := by decide +kernel
theorem dX5_measure_15 : decode cX5_measure 15 = .ok (.ldc 196, 2) := by decide +kernel
theorem dX5_measure_17 : decode cX5_measure 17 = .ok (.if_icmp .eq 17, 3) := by decide +kernel
theorem dX5_measure_20 : decode cX5_measure 20 = .ok (.iload_n 2, 1) := by decide +kernel
theorem dX5_measure_21 : decode cX5_measure 21 = .ok (.bipush 100, 2) := by decide +kernel
theorem dX5_measure_23 : decode cX5_measure 23 = .ok (.ldc 206, 2) := by decide +kernel
theorem dX5_measure_25 : decode cX5_measure 25 = .ok (.invokestatic 61, 3) := by decide +kernel
theorem dX5_measure_28 : decode cX5_measure 28 = .ok (.ifCond .ne 6, 3) := by decide +kernel
theorem dX5_measure_31 : decode cX5_measure 31 = .ok (.ldc 65, 2) := by decide +kernel
theorem dX5_measure_33 : decode cX5_measure 33 = .ok (.ireturn, 1) := by decide +kernel
theorem dX5_measure_34 : decode cX5_measure 34 = .ok (.aload_n 0, 1) := by decide +kernel
theorem dX5_measure_35 : decode cX5_measure 35 = .ok (.getfield 57, 3) := by decide +kernel
theorem dX5_measure_38 : decode cX5_measure 38 = .ok (.getfield 207, 3) := by decide +kernel
theorem dX5_measure_41 : decode cX5_measure 41 = .ok (.iload_n 1, 1) := by decide +kernel
theorem dX5_measure_42 : decode cX5_measure 42 = .ok (.iaload, 1) := by decide +kernel
theorem dX5_measure_43 : decode cX5_measure 43 = .ok (.istore_n 3, 1) := by decide +kernel
theorem dX5_measure_44 : decode cX5_measure 44 = .ok (.aload_n 0, 1) := by decide +kernel
theorem dX5_measure_45 : decode cX5_measure 45 = .ok (.getfield 57, 3) := by decide +kernel
theorem dX5_measure_48 : decode cX5_measure 48 = .ok (.getfield 207, 3) := by decide +kernel
theorem dX5_measure_51 : decode cX5_measure 51 = .ok (.iload_n 1, 1) := by decide +kernel
theorem dX5_measure_52 : decode cX5_measure 52 = .ok (.iload_n 2, 1) := by decide +kernel
theorem dX5_measure_53 : decode cX5_measure 53 = .ok (.iastore, 1) := by decide +kernel
theorem dX5_measure_54 : decode cX5_measure 54 = .ok (.iload_n 3, 1) := by decide +kernel
theorem dX5_measure_55 : decode cX5_measure 55 = .ok (.ireturn, 1) := by decide +kernel
set_option maxRecDepth 20000 in
theorem ggX5_misfit_X5_isScale : GoodIn wsX5_misfit wsX5_isScale := goodIn_r _ [7, 8, 9, 6, 10] (by decide +kernel) (by decide +kernel)
set_option maxRecDepth 20000 in
theorem gX5_misfit_X5_isScale : GoodIn wsX5_misfit (va_wsS RX5 111 yX5_isScale wsX5_isScale) := goodIn_app (goodIn_of _ (by decide +kernel)) ggX5_misfit_X5_isScale
set_option maxRecDepth 20000 in
theorem ggX5_misfit_X5_isPitch : GoodIn wsX5_misfit wsX5_isPitch := goodIn_r _ [13, 14, 8, 9, 6, 10] (by decide +kernel) (by decide +kernel)
set_option maxRecDepth 20000 in
theorem gX5_misfit_X5_isPitch : GoodIn wsX5_misfit (va_wsS RX5 125 yX5_isPitch wsX5_isPitch) := goodIn_app (goodIn_of _ (by decide +kernel)) ggX5_misfit_X5_isPitch
set_option maxRecDepth 20000 in
theorem ggX5_misfit_X2_misfitAt : GoodIn wsX5_misfit wsX2_misfitAt := goodIn_r _ [19, 20, 21, 22, 23, 24, 25, 26, 27, 28, 29, 30, 31, 32, 33, 34, 35, 45, 46, 47, 48, 49, 50, 51, 52, 53, 54, 55, 56] (by decide +kernel) (by decide +kernel)
set_option maxRecDepth 20000 in
theorem gX5_misfit_X2_misfitAt : GoodIn wsX5_misfit (wsV RX5 210 RX2 yX2_misfitAt wsX2_misfitAt) := goodIn_app (goodIn_of _ (by decide +kernel)) ggX5_misfit_X2_misfitAt
theorem dX5_misfit_0 : decode cX5_misfit 0 = .ok (.iload_n 1, 1) := by decide +kernel
theorem dX5_misfit_1 : decode cX5_misfit 1 = .ok (.invokestatic 111, 3) := by decide +kernel
theorem dX5_misfit_4 : decode cX5_misfit 4 = .ok (.ifCond .ne 6, 3) := by decide +kernel
theorem dX5_misfit_7 : decode cX5_misfit 7 = .ok (.ldc 76, 2) := by decide +kernel
theorem dX5_misfit_9 : decode cX5_misfit 9 = .ok (.ireturn, 1) := by decide +kernel
theorem dX5_misfit_10 : decode cX5_misfit 10 = .ok (.iload_n 2, 1) := by decide +kernel
theorem dX5_misfit_11 : decode cX5_misfit 11 = .ok (.invokestatic 125, 3) := by decide +kernel
theorem dX5_misfit_14 : decode cX5_misfit 14 = .ok (.ifCond .ne 6, 3) := by decide +kernel
theorem dX5_misfit_17 : decode cX5_misfit 17 = .ok (.ldc 65, 2) := by decide +kernel
theorem dX5_misfit_19 : decode cX5_misfit 19 = .ok (.ireturn, 1) := by decide +kernel
theorem dX5_misfit_20 : decode cX5_misfit 20 = .ok (.aload_n 0, 1) := by decide +kernel
theorem dX5_misfit_21 : decode cX5_misfit 21 = .ok (.getfield 57, 3) := by decide +kernel
theorem dX5_misfit_24 : decode cX5_misfit 24 = .ok (.iload_n 1, 1) := by decide +kernel
theorem dX5_misfit_25 : decode cX5_misfit 25 = .ok (.iload_n 2, 1) := by decide +kernel
theorem dX5_misfit_26 : decode cX5_misfit 26 = .ok (.iconst (-1), 1) := by decide +kernel
theorem dX5_misfit_27 : decode cX5_misfit 27 = .ok (.invokevirtual 210, 3) := by decide +kernel
theorem dX5_misfit_30 : decode cX5_misfit 30 = .ok (.ireturn, 1) := by decide +kernel
set_option maxRecDepth 20000 in
theorem ggX5_found_X5_isScale : GoodIn wsX5_found wsX5_isScale := goodIn_r _ [10, 11, 12, 9, 13] (by decide +kernel) (by decide +kernel)
set_option maxRecDepth 20000 in
theorem gX5_found_X5_isScale : GoodIn wsX5_found (va_wsS RX5 111 yX5_isScale wsX5_isScale) := goodIn_app (goodIn_of _ (by decide +kernel)) ggX5_found_X5_isScale
set_option maxRecDepth 20000 in
theorem ggX5_found_X5_within : GoodIn wsX5_found wsX5_within := goodIn_r _ [13] (by decide +kernel) (by decide +kernel)
set_option maxRecDepth 20000 in
theorem gX5_found_X5_within : GoodIn wsX5_found (va_wsS RX5 61 yX5_within wsX5_within) := goodIn_app (goodIn_of _ (by decide +kernel)) ggX5_found_X5_within
set_option maxRecDepth 20000 in
theorem ggX5_found_X2_countMeasured : GoodIn wsX5_found wsX2_countMeasured := goodIn_r _ [18, 19, 20, 21, 22, 59, 60, 61, 62, 63, 64, 65, 66, 67, 68] (by decide +kernel) (by decide +kernel)
set_option maxRecDepth 20000 in
theorem gX5_found_X2_countMeasured : GoodIn wsX5_found (wsV RX5 213 RX2 yX2_countMeasured wsX2_countMeasured) := goodIn_app (goodIn_of _ (by decide +kernel)) ggX5_found_X2_countMeasured
set_option maxRecDepth 20000 in
theorem ggX5_found_X2_seek : GoodIn wsX5_found wsX2_seek := goodIn_r _ [26, 27, 28, 29, 30, 31, 32, 17, 33, 34, 35, 36, 37, 19, 20, 21, 22, 38, 39, 40, 41, 42, 43, 44, 45, 46, 47, 48, 49, 59, 60, 61, 62, 63, 64, 65, 66, 67, 68, 69, 70] (by decide +kernel) (by decide +kernel)
set_option maxRecDepth 20000 in
theorem gX5_found_X2_seek : GoodIn wsX5_found (wsV RX5 216 RX2 yX2_seek wsX2_seek) := goodIn_app (goodIn_of _ (by decide +kernel)) ggX5_found_X2_seek
theorem dX5_found_0 : decode cX5_found 0 = .ok (.iload_n 1, 1) := by decide +kernel
theorem dX5_found_1 : decode cX5_found 1 = .ok (.invokestatic 111, 3) := by decide +kernel
theorem dX5_found_4 : decode cX5_found 4 = .ok (.ifCond .ne 6, 3) := by decide +kernel
theorem dX5_found_7 : decode cX5_found 7 = .ok (.ldc 76, 2) := by decide +kernel
theorem dX5_found_9 : decode cX5_found 9 = .ok (.ireturn, 1) := by decide +kernel
theorem dX5_found_10 : decode cX5_found 10 = .ok (.iload_n 2, 1) := by decide +kernel
theorem dX5_found_11 : decode cX5_found 11 = .ok (.iconst 0, 1) := by decide +kernel
theorem dX5_found_12 : decode cX5_found 12 = .ok (.iconst 1, 1) := by decide +kernel
theorem dX5_found_13 : decode cX5_found 13 = .ok (.invokestatic 61, 3) := by decide +kernel
theorem dX5_found_16 : decode cX5_found 16 = .ok (.ifCond .ne 6, 3) := by decide +kernel
theorem dX5_found_19 : decode cX5_found 19 = .ok (.ldc 65, 2) := by decide +kernel
theorem dX5_found_21 : decode cX5_found 21 = .ok (.ireturn, 1) := by decide +kernel
theorem dX5_found_22 : decode cX5_found 22 = .ok (.aload_n 0, 1) := by decide +kernel
theorem dX5_found_23 : decode cX5_found 23 = .ok (.getfield 57, 3) := by decide +kernel
theorem dX5_found_26 : decode cX5_found 26 = .ok (.invokevirtual 213, 3) := by decide +kernel
theorem dX5_found_29 : decode cX5_found 29 = .ok (.iconst 1, 1) := by decide +kernel
theorem dX5_found_30 : decode cX5_found 30 = .ok (.if_icmp .ge 6, 3) := by decide +kernel
theorem dX5_found_33 : decode cX5_found 33 = .ok (.ldc 147, 2) := by decide +kernel
theorem dX5_found_35 : decode cX5_found 35 = .ok (.ireturn, 1) := by decide +kernel
theorem dX5_found_36 : decode cX5_found 36 = .ok (.aload_n 0, 1) := by decide +kernel
theorem dX5_found_37 : decode cX5_found 37 = .ok (.getfield 57, 3) := by decide +kernel
theorem dX5_found_40 : decode cX5_found 40 = .ok (.iload_n 1, 1) := by decide +kernel
theorem dX5_found_41 : decode cX5_found 41 = .ok (.iconst (-1), 1) := by decide +kernel
theorem dX5_found_42 : decode cX5_found 42 = .ok (.invokevirtual 216, 3) := by decide +kernel
theorem dX5_found_45 : decode cX5_found 45 = .ok (.iload_n 2, 1) := by decide +kernel
theorem dX5_found_46 : decode cX5_found 46 = .ok (.ifCond .ne 13, 3) := by decide +kernel
theorem dX5_found_49 : decode cX5_found 49 = .ok (.aload_n 0, 1) := by decide +kernel
theorem dX5_found_50 : decode cX5_found 50 = .ok (.getfield 57, 3) := by decide +kernel
theorem dX5_found_53 : decode cX5_found 53 = .ok (.getfield 220, 3) := by decide +kernel
theorem dX5_found_56 : decode cX5_found 56 = .ok (.goto 10, 3) := by decide +kernel
theorem dX5_found_59 : decode cX5_found 59 = .ok (.aload_n 0, 1) := by decide +kernel
theorem dX5_found_60 : decode cX5_found 60 = .ok (.getfield 57, 3) := by decide +kernel
theorem dX5_found_63 : decode cX5_found 63 = .ok (.getfield 223, 3) := by decide +kernel
theorem dX5_found_66 : decode cX5_found 66 = .ok (.ireturn, 1) := by decide +kernel
set_option maxRecDepth 20000 in
theorem ggX5_meant_X2_countMeasured : GoodIn wsX5_meant wsX2_countMeasured := goodIn_r _ [7, 8, 9, 10, 11, 52, 53, 54, 55, 56, 57, 58, 59, 60, 61] (by decide +kernel) (by decide +kernel)
set_option maxRecDepth 20000 in
theorem gX5_meant_X2_countMeasured : GoodIn wsX5_meant (wsV RX5 213 RX2 yX2_countMeasured wsX2_countMeasured) := goodIn_app (goodIn_of _ (by decide +kernel)) ggX5_meant_X2_countMeasured
set_option maxRecDepth 20000 in
theorem ggX5_meant_X2_scaleMeant : GoodIn wsX5_meant wsX2_scaleMeant := goodIn_r _ [15, 16, 17, 18, 19, 20, 6, 21, 22, 23, 24, 25, 26, 27, 28, 29, 30, 8, 9, 10, 11, 31, 32, 33, 34, 35, 36, 37, 38, 39, 40, 41, 42, 52, 53, 54, 55, 56, 57, 58, 59, 60, 61, 62, 63] (by decide +kernel) (by decide +kernel)
set_option maxRecDepth 20000 in
theorem gX5_meant_X2_scaleMeant : GoodIn wsX5_meant (wsV RX5 226 RX2 yX2_scaleMeant wsX2_scaleMeant) := goodIn_app (goodIn_of _ (by decide +kernel)) ggX5_meant_X2_scaleMeant
theorem dX5_meant_0 : decode cX5_meant 0 = .ok (.aload_n 0, 1) := by decide +kernel
theorem dX5_meant_1 : decode cX5_meant 1 = .ok (.getfield 57, 3) := by decide +kernel
theorem dX5_meant_4 : decode cX5_meant 4 = .ok (.invokevirtual 213, 3) := by decide +kernel
theorem dX5_meant_7 : decode cX5_meant 7 = .ok (.iconst 1, 1) := by decide +kernel
theorem dX5_meant_8 : decode cX5_meant 8 = .ok (.if_icmp .ge 6, 3) := by decide +kernel
theorem dX5_meant_11 : decode cX5_meant 11 = .ok (.ldc 147, 2) := by decide +kernel
theorem dX5_meant_13 : decode cX5_meant 13 = .ok (.ireturn, 1) := by decide +kernel
theorem dX5_meant_14 : decode cX5_meant 14 = .ok (.aload_n 0, 1) := by decide +kernel
theorem dX5_meant_15 : decode cX5_meant 15 = .ok (.getfield 57, 3) := by decide +kernel
theorem dX5_meant_18 : decode cX5_meant 18 = .ok (.invokevirtual 226, 3) := by decide +kernel
theorem dX5_meant_21 : decode cX5_meant 21 = .ok (.ireturn, 1) := by decide +kernel
set_option maxRecDepth 20000 in
theorem ggX5_added_X5_within : GoodIn wsX5_added wsX5_within := goodIn_r _ [8] (by decide +kernel) (by decide +kernel)
set_option maxRecDepth 20000 in
theorem gX5_added_X5_within : GoodIn wsX5_added (va_wsS RX5 61 yX5_within wsX5_within) := goodIn_app (goodIn_of _ (by decide +kernel)) ggX5_added_X5_within
set_option maxRecDepth 20000 in
theorem ggX5_added_X2_countMeasured : GoodIn wsX5_added wsX2_countMeasured := goodIn_r _ [13, 14, 15, 16, 17, 62, 63, 64, 65, 66, 67, 68, 69, 70, 71] (by decide +kernel) (by decide +kernel)
set_option maxRecDepth 20000 in
theorem gX5_added_X2_countMeasured : GoodIn wsX5_added (wsV RX5 213 RX2 yX2_countMeasured wsX2_countMeasured) := goodIn_app (goodIn_of _ (by decide +kernel)) ggX5_added_X2_countMeasured
set_option maxRecDepth 20000 in
theorem ggX5_added_X2_keyAdded : GoodIn wsX5_added wsX2_keyAdded := goodIn_r _ [21, 14, 15, 16, 17, 22, 23, 24, 25, 12, 26, 27, 28, 29, 30, 31, 32, 33, 34, 35, 36, 37, 38, 39, 40, 41, 42, 43, 44, 45, 46, 47, 48, 49, 50, 51, 52, 62, 63, 64, 65, 66, 67, 68, 69, 70, 71, 72, 73] (by decide +kernel) (by decide +kernel)
set_option maxRecDepth 20000 in
theorem gX5_added_X2_keyAdded : GoodIn wsX5_added (wsV RX5 229 RX2 yX2_keyAdded wsX2_keyAdded) := goodIn_app (goodIn_of _ (by decide +kernel)) ggX5_added_X2_keyAdded
theorem dX5_added_0 : decode cX5_added 0 = .ok (.iload_n 1, 1) := by decide +kernel
theorem dX5_added_1 : decode cX5_added 1 = .ok (.iconst 0, 1) := by decide +kernel
theorem dX5_added_2 : decode cX5_added 2 = .ok (.iconst 1, 1) := by decide +kernel
theorem dX5_added_3 : decode cX5_added 3 = .ok (.invokestatic 61, 3) := by decide +kernel
theorem dX5_added_6 : decode cX5_added 6 = .ok (.ifCond .ne 6, 3) := by decide +kernel
theorem dX5_added_9 : decode cX5_added 9 = .ok (.ldc 65, 2) := by decide +kernel
theorem dX5_added_11 : decode cX5_added 11 = .ok (.ireturn, 1) := by decide +kernel
theorem dX5_added_12 : decode cX5_added 12 = .ok (.aload_n 0, 1) := by decide +kernel
theorem dX5_added_13 : decode cX5_added 13 = .ok (.getfield 57, 3) := by decide +kernel
theorem dX5_added_16 : decode cX5_added 16 = .ok (.invokevirtual 213, 3) := by decide +kernel
theorem dX5_added_19 : decode cX5_added 19 = .ok (.iconst 2, 1) := by decide +kernel
theorem dX5_added_20 : decode cX5_added 20 = .ok (.if_icmp .ge 6, 3) := by decide +kernel
theorem dX5_added_23 : decode cX5_added 23 = .ok (.ldc 147, 2) := by decide +kernel
theorem dX5_added_25 : decode cX5_added 25 = .ok (.ireturn, 1) := by decide +kernel
theorem dX5_added_26 : decode cX5_added 26 = .ok (.aload_n 0, 1) := by decide +kernel
theorem dX5_added_27 : decode cX5_added 27 = .ok (.getfield 57, 3) := by decide +kernel
theorem dX5_added_30 : decode cX5_added 30 = .ok (.invokevirtual 229, 3) := by decide +kernel
theorem dX5_added_33 : decode cX5_added 33 = .ok (.istore_n 2, 1) := by decide +kernel
theorem dX5_added_34 : decode cX5_added 34 = .ok (.iload_n 1, 1) := by decide +kernel
theorem dX5_added_35 : decode cX5_added 35 = .ok (.ifCond .ne 7, 3) := by decide +kernel
theorem dX5_added_38 : decode cX5_added 38 = .ok (.iload_n 2, 1) := by decide +kernel
theorem dX5_added_39 : decode cX5_added 39 = .ok (.goto 10, 3) := by decide +kernel
theorem dX5_added_42 : decode cX5_added 42 = .ok (.aload_n 0, 1) := by decide +kernel
theorem dX5_added_43 : decode cX5_added 43 = .ok (.getfield 57, 3) := by decide +kernel
theorem dX5_added_46 : decode cX5_added 46 = .ok (.getfield 223, 3) := by decide +kernel
theorem dX5_added_49 : decode cX5_added 49 = .ok (.ireturn, 1) := by decide +kernel
set_option maxRecDepth 20000 in
theorem ggX5_bentLater_X5_within : GoodIn wsX5_bentLater wsX5_within := goodIn_r _ [8] (by decide +kernel) (by decide +kernel)
set_option maxRecDepth 20000 in
theorem gX5_bentLater_X5_within : GoodIn wsX5_bentLater (va_wsS RX5 61 yX5_within wsX5_within) := goodIn_app (goodIn_of _ (by decide +kernel)) ggX5_bentLater_X5_within
set_option maxRecDepth 20000 in
theorem ggX5_bentLater_X2_countMeasured : GoodIn wsX5_bentLater wsX2_countMeasured := goodIn_r _ [13, 14, 15, 16, 17, 62, 63, 64, 65, 66, 67, 68, 69, 70, 71] (by decide +kernel) (by decide +kernel)
set_option maxRecDepth 20000 in
theorem gX5_bentLater_X2_countMeasured : GoodIn wsX5_bentLater (wsV RX5 213 RX2 yX2_countMeasured wsX2_countMeasured) := goodIn_app (goodIn_of _ (by decide +kernel)) ggX5_bentLater_X2_countMeasured
set_option maxRecDepth 20000 in
theorem ggX5_bentLater_X2_keyBentLater : GoodIn wsX5_bentLater wsX2_keyBentLater := goodIn_r _ [21, 14, 15, 16, 17, 22, 23, 24, 25, 26, 27, 28, 29, 30, 12, 31, 32, 33, 34, 35, 36, 37, 38, 39, 40, 41, 42, 43, 44, 45, 46, 47, 48, 49, 50, 51, 52, 62, 63, 64, 65, 66, 67, 68, 69, 70, 71, 72, 73] (by decide +kernel) (by decide +kernel)
set_option maxRecDepth 20000 in
theorem gX5_bentLater_X2_keyBentLater : GoodIn wsX5_bentLater (wsV RX5 232 RX2 yX2_keyBentLater wsX2_keyBentLater) := goodIn_app (goodIn_of _ (by decide +kernel)) ggX5_bentLater_X2_keyBentLater
theorem dX5_bentLater_0 : decode cX5_bentLater 0 = .ok (.iload_n 1, 1) := by decide +kernel
theorem dX5_bentLater_1 : decode cX5_bentLater 1 = .ok (.iconst 0, 1) := by decide +kernel
theorem dX5_bentLater_2 : decode cX5_bentLater 2 = .ok (.ldc 206, 2) := by decide +kernel
theorem dX5_bentLater_4 : decode cX5_bentLater 4 = .ok (.invokestatic 61, 3) := by decide +kernel
theorem dX5_bentLater_7 : decode cX5_bentLater 7 = .ok (.ifCond .ne 6, 3) := by decide +kernel
theorem dX5_bentLater_10 : decode cX5_bentLater 10 = .ok (.ldc 65, 2) := by decide +kernel
theorem dX5_bentLater_12 : decode cX5_bentLater 12 = .ok (.ireturn, 1) := by decide +kernel
theorem dX5_bentLater_13 : decode cX5_bentLater 13 = .ok (.aload_n 0, 1) := by decide +kernel
theorem dX5_bentLater_14 : decode cX5_bentLater 14 = .ok (.getfield 57, 3) := by decide +kernel
theorem dX5_bentLater_17 : decode cX5_bentLater 17 = .ok (.invokevirtual 213, 3) := by decide +kernel
theorem dX5_bentLater_20 : decode cX5_bentLater 20 = .ok (.iconst 1, 1) := by decide +kernel
theorem dX5_bentLater_21 : decode cX5_bentLater 21 = .ok (.if_icmp .ge 6, 3) := by decide +kernel
theorem dX5_bentLater_24 : decode cX5_bentLater 24 = .ok (.ldc 147, 2) := by decide +kernel
theorem dX5_bentLater_26 : decode cX5_bentLater 26 = .ok (.ireturn, 1) := by decide +kernel
theorem dX5_bentLater_27 : decode cX5_bentLater 27 = .ok (.aload_n 0, 1) := by decide +kernel
theorem dX5_bentLater_28 : decode cX5_bentLater 28 = .ok (.getfield 57, 3) := by decide +kernel
theorem dX5_bentLater_31 : decode cX5_bentLater 31 = .ok (.iload_n 1, 1) := by decide +kernel
theorem dX5_bentLater_32 : decode cX5_bentLater 32 = .ok (.iload_n 2, 1) := by decide +kernel
theorem dX5_bentLater_33 : decode cX5_bentLater 33 = .ok (.invokevirtual 232, 3) := by decide +kernel
theorem dX5_bentLater_36 : decode cX5_bentLater 36 = .ok (.ireturn, 1) := by decide +kernel
set_option maxRecDepth 20000 in
theorem ggX5_count_X0_countStruck : GoodIn wsX5_count wsX0_countStruck := goodIn_r _ [11, 12, 13, 14, 10, 15, 16, 17, 54, 55, 56, 57, 58] (by decide +kernel) (by decide +kernel)
set_option maxRecDepth 20000 in
theorem gX5_count_X0_countStruck : GoodIn wsX5_count (wsV RX5 235 RX0 yX0_countStruck wsX0_countStruck) := goodIn_app (goodIn_of _ (by decide +kernel)) ggX5_count_X0_countStruck
set_option maxRecDepth 20000 in
theorem ggX5_count_X1_countNotes : GoodIn wsX5_count wsX1_countNotes := goodIn_r _ [22, 23, 59, 60, 61, 62, 63] (by decide +kernel) (by decide +kernel)
set_option maxRecDepth 20000 in
theorem gX5_count_X1_countNotes : GoodIn wsX5_count (wsV RX5 238 RX1 yX1_countNotes wsX1_countNotes) := goodIn_app (goodIn_of _ (by decide +kernel)) ggX5_count_X1_countNotes
set_option maxRecDepth 20000 in
theorem ggX5_count_J6_bitCount_0f7a4 : GoodIn wsX5_count wsJ6_bitCount_0f7a4 := goodIn_r _ [27, 28, 29, 30] (by decide +kernel) (by decide +kernel)
set_option maxRecDepth 20000 in
theorem gX5_count_J6_bitCount_0f7a4 : GoodIn wsX5_count (va_wsS RX5 241 yJ6_bitCount_0f7a4 wsJ6_bitCount_0f7a4) := goodIn_app (goodIn_of _ (by decide +kernel)) ggX5_count_J6_bitCount_0f7a4
set_option maxRecDepth 20000 in
theorem ggX5_count_X2_countMeasured : GoodIn wsX5_count wsX2_countMeasured := goodIn_r _ [35, 36, 37, 38, 39, 64, 65, 66, 67, 68, 54, 55, 56, 57, 58] (by decide +kernel) (by decide +kernel)
set_option maxRecDepth 20000 in
theorem gX5_count_X2_countMeasured : GoodIn wsX5_count (wsV RX5 213 RX2 yX2_countMeasured wsX2_countMeasured) := goodIn_app (goodIn_of _ (by decide +kernel)) ggX5_count_X2_countMeasured
set_option maxRecDepth 20000 in
theorem ggX5_count_X0_countBent : GoodIn wsX5_count wsX0_countBent := goodIn_r _ [43, 16, 44, 54, 55, 56, 57, 58] (by decide +kernel) (by decide +kernel)
set_option maxRecDepth 20000 in
theorem gX5_count_X0_countBent : GoodIn wsX5_count (wsV RX5 246 RX0 yX0_countBent wsX0_countBent) := goodIn_app (goodIn_of _ (by decide +kernel)) ggX5_count_X0_countBent
theorem dX5_count_0 : decode cX5_count 0 = .ok (.iload_n 1, 1) := by decide +kernel
theorem dX5_count_1 : decode cX5_count 1 = .ok (.tableswitch 87 0 5 #[39, 47, 55, 63, 71, 79], 39) := by decide +kernel
theorem dX5_count_40 : decode cX5_count 40 = .ok (.aload_n 0, 1) := by decide +kernel
theorem dX5_count_41 : decode cX5_count 41 = .ok (.getfield 25, 3) := by decide +kernel
theorem dX5_count_44 : decode cX5_count 44 = .ok (.getfield 66, 3) := by decide +kernel
theorem dX5_count_47 : decode cX5_count 47 = .ok (.ireturn, 1) := by decide +kernel
theorem dX5_count_48 : decode cX5_count 48 = .ok (.aload_n 0, 1) := by decide +kernel
theorem dX5_count_49 : decode cX5_count 49 = .ok (.getfield 25, 3) := by decide +kernel
theorem dX5_count_52 : decode cX5_count 52 = .ok (.invokevirtual 235, 3) := by decide +kernel
theorem dX5_count_55 : decode cX5_count 55 = .ok (.ireturn, 1) := by decide +kernel
theorem dX5_count_56 : decode cX5_count 56 = .ok (.aload_n 0, 1) := by decide +kernel
theorem dX5_count_57 : decode cX5_count 57 = .ok (.getfield 41, 3) := by decide +kernel
theorem dX5_count_60 : decode cX5_count 60 = .ok (.invokevirtual 238, 3) := by decide +kernel
theorem dX5_count_63 : decode cX5_count 63 = .ok (.ireturn, 1) := by decide +kernel
theorem dX5_count_64 : decode cX5_count 64 = .ok (.aload_n 0, 1) := by decide +kernel
theorem dX5_count_65 : decode cX5_count 65 = .ok (.getfield 19, 3) := by decide +kernel
theorem dX5_count_68 : decode cX5_count 68 = .ok (.invokestatic 241, 3) := by decide +kernel
theorem dX5_count_71 : decode cX5_count 71 = .ok (.ireturn, 1) := by decide +kernel
theorem dX5_count_72 : decode cX5_count 72 = .ok (.aload_n 0, 1) := by decide +kernel
theorem dX5_count_73 : decode cX5_count 73 = .ok (.getfield 57, 3) := by decide +kernel
theorem dX5_count_76 : decode cX5_count 76 = .ok (.invokevirtual 213, 3) := by decide +kernel
theorem dX5_count_79 : decode cX5_count 79 = .ok (.ireturn, 1) := by decide +kernel
theorem dX5_count_80 : decode cX5_count 80 = .ok (.aload_n 0, 1) := by decide +kernel
theorem dX5_count_81 : decode cX5_count 81 = .ok (.getfield 25, 3) := by decide +kernel
theorem dX5_count_84 : decode cX5_count 84 = .ok (.invokevirtual 246, 3) := by decide +kernel
theorem dX5_count_87 : decode cX5_count 87 = .ok (.ireturn, 1) := by decide +kernel
theorem dX5_count_88 : decode cX5_count 88 = .ok (.ldc 65, 2) := by decide +kernel
theorem dX5_count_90 : decode cX5_count 90 = .ok (.ireturn, 1) := by decide +kernel
set_option maxRecDepth 20000 in
theorem ggX5_goalOf_X3_goalAt : GoodIn wsX5_goalOf wsX3_goalAt := goodIn_r _ [8, 9, 10, 20, 21] (by decide +kernel) (by decide +kernel)
set_option maxRecDepth 20000 in
theorem gX5_goalOf_X3_goalAt : GoodIn wsX5_goalOf (wsV RX5 249 RX3 yX3_goalAt wsX3_goalAt) := goodIn_app (goodIn_of _ (by decide +kernel)) ggX5_goalOf_X3_goalAt
theorem dX5_goalOf_0 : decode cX5_goalOf 0 = .ok (.aload_n 0, 1) := by decide +kernel
theorem dX5_goalOf_1 : decode cX5_goalOf 1 = .ok (.getfield 32, 3) := by decide +kernel
theorem dX5_goalOf_4 : decode cX5_goalOf 4 = .ok (.aload_n 0, 1) := by decide +kernel
theorem dX5_goalOf_5 : decode cX5_goalOf 5 = .ok (.getfield 7, 3) := by decide +kernel
theorem dX5_goalOf_8 : decode cX5_goalOf 8 = .ok (.aload_n 0, 1) := by decide +kernel
theorem dX5_goalOf_9 : decode cX5_goalOf 9 = .ok (.getfield 13, 3) := by decide +kernel
theorem dX5_goalOf_12 : decode cX5_goalOf 12 = .ok (.iload_n 1, 1) := by decide +kernel
theorem dX5_goalOf_13 : decode cX5_goalOf 13 = .ok (.invokevirtual 249, 3) := by decide +kernel
theorem dX5_goalOf_16 : decode cX5_goalOf 16 = .ok (.ireturn, 1) := by decide +kernel
set_option maxRecDepth 20000 in
theorem ggX5_errorOf_X0_toneOf : GoodIn wsX5_errorOf wsX0_toneOf := goodIn_r _ [6, 7, 8, 9, 10, 5, 11, 12, 13, 14, 39, 40, 41, 42, 43] (by decide +kernel) (by decide +kernel)
set_option maxRecDepth 20000 in
theorem gX5_errorOf_X0_toneOf : GoodIn wsX5_errorOf (wsV RX5 90 RX0 yX0_toneOf wsX0_toneOf) := goodIn_app (goodIn_of _ (by decide +kernel)) ggX5_errorOf_X0_toneOf
set_option maxRecDepth 20000 in
theorem ggX5_errorOf_X5_goalOf : GoodIn wsX5_errorOf wsX5_goalOf := goodIn_r _ [19, 20, 21, 22, 23, 24, 25, 26, 27, 28, 29, 30, 31, 32, 33, 34, 35, 36, 37, 38, 44, 45] (by decide +kernel) (by decide +kernel)
set_option maxRecDepth 20000 in
theorem gX5_errorOf_X5_goalOf : GoodIn wsX5_errorOf (wsV RX5 94 RX5 yX5_goalOf wsX5_goalOf) := goodIn_app (goodIn_of _ (by decide +kernel)) ggX5_errorOf_X5_goalOf
theorem dX5_errorOf_0 : decode cX5_errorOf 0 = .ok (.aload_n 0, 1) := by decide +kernel
theorem dX5_errorOf_1 : decode cX5_errorOf 1 = .ok (.getfield 25, 3) := by decide +kernel
theorem dX5_errorOf_4 : decode cX5_errorOf 4 = .ok (.iload_n 1, 1) := by decide +kernel
theorem dX5_errorOf_5 : decode cX5_errorOf 5 = .ok (.invokevirtual 90, 3) := by decide +kernel
theorem dX5_errorOf_8 : decode cX5_errorOf 8 = .ok (.aload_n 0, 1) := by decide +kernel
theorem dX5_errorOf_9 : decode cX5_errorOf 9 = .ok (.iload_n 1, 1) := by decide +kernel
theorem dX5_errorOf_10 : decode cX5_errorOf 10 = .ok (.invokevirtual 94, 3) := by decide +kernel
theorem dX5_errorOf_13 : decode cX5_errorOf 13 = .ok (.isub, 1) := by decide +kernel
theorem dX5_errorOf_14 : decode cX5_errorOf 14 = .ok (.ireturn, 1) := by decide +kernel
set_option maxRecDepth 20000 in
theorem ggX5_allErrors_X5_errorOf : GoodIn wsX5_allErrors wsX5_errorOf := goodIn_r _ [11, 1, 12, 13, 14, 15, 16, 17, 18, 19, 20, 21, 22, 23, 24, 25, 26, 27, 10, 28, 29, 30, 31, 32, 33, 34, 35, 36, 37, 38, 39, 40, 41, 42, 43, 44, 45, 46, 47, 48, 49, 50, 51, 52, 53, 54] (by decide +kernel) (by decide +kernel)
set_option maxRecDepth 20000 in
theorem gX5_allErrors_X5_errorOf : GoodIn wsX5_allErrors (wsV RX5 97 RX5 yX5_errorOf wsX5_errorOf) := goodIn_app (goodIn_of _ (by decide +kernel)) ggX5_allErrors_X5_errorOf
theorem dX5_allErrors_0 : decode cX5_allErrors 0 = .ok (.iconst 0, 1) := by decide +kernel
theorem dX5_allErrors_1 : decode cX5_allErrors 1 = .ok (.istore_n 1, 1) := by decide +kernel
theorem dX5_allErrors_2 : decode cX5_allErrors 2 = .ok (.iconst 0, 1) := by decide +kernel
theorem dX5_allErrors_3 : decode cX5_allErrors 3 = .ok (.istore_n 2, 1) := by decide +kernel
theorem dX5_allErrors_4 : decode cX5_allErrors 4 = .ok (.iload_n 2, 1) := by decide +kernel
theorem dX5_allErrors_5 : decode cX5_allErrors 5 = .ok (.aload_n 0, 1) := by decide +kernel
theorem dX5_allErrors_6 : decode cX5_allErrors 6 = .ok (.getfield 25, 3) := by decide +kernel
theorem dX5_allErrors_9 : decode cX5_allErrors 9 = .ok (.getfield 66, 3) := by decide +kernel
theorem dX5_allErrors_12 : decode cX5_allErrors 12 = .ok (.if_icmp .ge 20, 3) := by decide +kernel
theorem dX5_allErrors_15 : decode cX5_allErrors 15 = .ok (.iload_n 1, 1) := by decide +kernel
theorem dX5_allErrors_16 : decode cX5_allErrors 16 = .ok (.aload_n 0, 1) := by decide +kernel
theorem dX5_allErrors_17 : decode cX5_allErrors 17 = .ok (.iload_n 2, 1) := by decide +kernel
theorem dX5_allErrors_18 : decode cX5_allErrors 18 = .ok (.invokevirtual 97, 3) := by decide +kernel
theorem dX5_allErrors_21 : decode cX5_allErrors 21 = .ok (.invokestatic 136, 3) := by decide +kernel
theorem dX5_allErrors_24 : decode cX5_allErrors 24 = .ok (.iadd, 1) := by decide +kernel
theorem dX5_allErrors_25 : decode cX5_allErrors 25 = .ok (.istore_n 1, 1) := by decide +kernel
theorem dX5_allErrors_26 : decode cX5_allErrors 26 = .ok (.iinc 2 1, 3) := by decide +kernel
theorem dX5_allErrors_29 : decode cX5_allErrors 29 = .ok (.goto (-25), 3) := by decide +kernel
theorem dX5_allErrors_32 : decode cX5_allErrors 32 = .ok (.iload_n 1, 1) := by decide +kernel
theorem dX5_allErrors_33 : decode cX5_allErrors 33 = .ok (.ireturn, 1) := by decide +kernel
set_option maxRecDepth 20000 in
theorem ggX5_tuneOne_X5_goalOf : GoodIn wsX5_tuneOne wsX5_goalOf := goodIn_r _ [11, 12, 13, 14, 15, 16, 17, 18, 19, 20, 21, 30, 31, 32, 33, 34, 35, 36, 37, 38, 44, 45] (by decide +kernel) (by decide +kernel)
set_option maxRecDepth 20000 in
theorem gX5_tuneOne_X5_goalOf : GoodIn wsX5_tuneOne (wsV RX5 94 RX5 yX5_goalOf wsX5_goalOf) := goodIn_app (goodIn_of _ (by decide +kernel)) ggX5_tuneOne_X5_goalOf
set_option maxRecDepth 20000 in
theorem ggX5_tuneOne_X0_toneBent : GoodIn wsX5_tuneOne wsX0_toneBent := goodIn_r _ [26, 27, 28, 29, 39, 40, 41, 42, 43] (by decide +kernel) (by decide +kernel)
set_option maxRecDepth 20000 in
theorem gX5_tuneOne_X0_toneBent : GoodIn wsX5_tuneOne (wsV RX5 252 RX0 yX0_toneBent wsX0_toneBent) := goodIn_app (goodIn_of _ (by decide +kernel)) ggX5_tuneOne_X0_toneBent
theorem dX5_tuneOne_0 : decode cX5_tuneOne 0 = .ok (.aload_n 0, 1) := by decide +kernel
theorem dX5_tuneOne_1 : decode cX5_tuneOne 1 = .ok (.iload_n 1, 1) := by decide +kernel
theorem dX5_tuneOne_2 : decode cX5_tuneOne 2 = .ok (.invokevirtual 94, 3) := by decide +kernel
theorem dX5_tuneOne_5 : decode cX5_tuneOne 5 = .ok (.istore_n 2, 1) := by decide +kernel
theorem dX5_tuneOne_6 : decode cX5_tuneOne 6 = .ok (.iconst 0, 1) := by decide +kernel
theorem dX5_tuneOne_7 : decode cX5_tuneOne 7 = .ok (.istore_n 3, 1) := by decide +kernel
theorem dX5_tuneOne_8 : decode cX5_tuneOne 8 = .ok (.aload_n 0, 1) := by decide +kernel
theorem dX5_tuneOne_9 : decode cX5_tuneOne 9 = .ok (.getfield 25, 3) := by decide +kernel
theorem dX5_tuneOne_12 : decode cX5_tuneOne 12 = .ok (.iload_n 1, 1) := by decide +kernel
theorem dX5_tuneOne_13 : decode cX5_tuneOne 13 = .ok (.iconst 0, 1) := by decide +kernel
theorem dX5_tuneOne_14 : decode cX5_tuneOne 14 = .ok (.invokevirtual 252, 3) := by decide +kernel
theorem dX5_tuneOne_17 : decode cX5_tuneOne 17 = .ok (.iload_n 2, 1) := by decide +kernel
theorem dX5_tuneOne_18 : decode cX5_tuneOne 18 = .ok (.isub, 1) := by decide +kernel
theorem dX5_tuneOne_19 : decode cX5_tuneOne 19 = .ok (.invokestatic 136, 3) := by decide +kernel
theorem dX5_tuneOne_22 : decode cX5_tuneOne 22 = .ok (.istore 4, 2) := by decide +kernel
theorem dX5_tuneOne_24 : decode cX5_tuneOne 24 = .ok (.iconst 1, 1) := by decide +kernel
theorem dX5_tuneOne_25 : decode cX5_tuneOne 25 = .ok (.istore 5, 2) := by decide +kernel
theorem dX5_tuneOne_27 : decode cX5_tuneOne 27 = .ok (.iload 5, 2) := by decide +kernel
theorem dX5_tuneOne_29 : decode cX5_tuneOne 29 = .ok (.bipush 40, 2) := by decide +kernel
theorem dX5_tuneOne_31 : decode cX5_tuneOne 31 = .ok (.if_icmp .gt 73, 3) := by decide +kernel
theorem dX5_tuneOne_34 : decode cX5_tuneOne 34 = .ok (.aload_n 0, 1) := by decide +kernel
theorem dX5_tuneOne_35 : decode cX5_tuneOne 35 = .ok (.getfield 25, 3) := by decide +kernel
theorem dX5_tuneOne_38 : decode cX5_tuneOne 38 = .ok (.iload_n 1, 1) := by decide +kernel
theorem dX5_tuneOne_39 : decode cX5_tuneOne 39 = .ok (.iload 5, 2) := by decide +kernel
theorem dX5_tuneOne_41 : decode cX5_tuneOne 41 = .ok (.ineg, 1) := by decide +kernel
theorem dX5_tuneOne_42 : decode cX5_tuneOne 42 = .ok (.invokevirtual 252, 3) := by decide +kernel
theorem dX5_tuneOne_45 : decode cX5_tuneOne 45 = .ok (.iload_n 2, 1) := by decide +kernel
theorem dX5_tuneOne_46 : decode cX5_tuneOne 46 = .ok (.isub, 1) := by decide +kernel
theorem dX5_tuneOne_47 : decode cX5_tuneOne 47 = .ok (.invokestatic 136, 3) := by decide +kernel
theorem dX5_tuneOne_50 : decode cX5_tuneOne 50 = .ok (.istore 6, 2) := by decide +kernel
theorem dX5_tuneOne_52 : decode cX5_tuneOne 52 = .ok (.iload 6, 2) := by decide +kernel
theorem dX5_tuneOne_54 : decode cX5_tuneOne 54 = .ok (.iload 4, 2) := by decide +kernel
theorem dX5_tuneOne_56 : decode cX5_tuneOne 56 = .ok (.if_icmp .ge 11, 3) := by decide +kernel
theorem dX5_tuneOne_59 : decode cX5_tuneOne 59 = .ok (.iload 5, 2) := by decide +kernel
theorem dX5_tuneOne_61 : decode cX5_tuneOne 61 = .ok (.ineg, 1) := by decide +kernel
theorem dX5_tuneOne_62 : decode cX5_tuneOne 62 = .ok (.istore_n 3, 1) := by decide +kernel
theorem dX5_tuneOne_63 : decode cX5_tuneOne 63 = .ok (.iload 6, 2) := by decide +kernel
theorem dX5_tuneOne_65 : decode cX5_tuneOne 65 = .ok (.istore 4, 2) := by decide +kernel
theorem dX5_tuneOne_67 : decode cX5_tuneOne 67 = .ok (.aload_n 0, 1) := by decide +kernel
theorem dX5_tuneOne_68 : decode cX5_tuneOne 68 = .ok (.getfield 25, 3) := by decide +kernel
theorem dX5_tuneOne_71 : decode cX5_tuneOne 71 = .ok (.iload_n 1, 1) := by decide +kernel
theorem dX5_tuneOne_72 : decode cX5_tuneOne 72 = .ok (.iload 5, 2) := by decide +kernel
theorem dX5_tuneOne_74 : decode cX5_tuneOne 74 = .ok (.invokevirtual 252, 3) := by decide +kernel
theorem dX5_tuneOne_77 : decode cX5_tuneOne 77 = .ok (.iload_n 2, 1) := by decide +kernel
theorem dX5_tuneOne_78 : decode cX5_tuneOne 78 = .ok (.isub, 1) := by decide +kernel
theorem dX5_tuneOne_79 : decode cX5_tuneOne 79 = .ok (.invokestatic 136, 3) := by decide +kernel
theorem dX5_tuneOne_82 : decode cX5_tuneOne 82 = .ok (.istore 7, 2) := by decide +kernel
theorem dX5_tuneOne_84 : decode cX5_tuneOne 84 = .ok (.iload 7, 2) := by decide +kernel
theorem dX5_tuneOne_86 : decode cX5_tuneOne 86 = .ok (.iload 4, 2) := by decide +kernel
theorem dX5_tuneOne_88 : decode cX5_tuneOne 88 = .ok (.if_icmp .ge 10, 3) := by decide +kernel
theorem dX5_tuneOne_91 : decode cX5_tuneOne 91 = .ok (.iload 5, 2) := by decide +kernel
theorem dX5_tuneOne_93 : decode cX5_tuneOne 93 = .ok (.istore_n 3, 1) := by decide +kernel
theorem dX5_tuneOne_94 : decode cX5_tuneOne 94 = .ok (.iload 7, 2) := by decide +kernel
theorem dX5_tuneOne_96 : decode cX5_tuneOne 96 = .ok (.istore 4, 2) := by decide +kernel
theorem dX5_tuneOne_98 : decode cX5_tuneOne 98 = .ok (.iinc 5 1, 3) := by decide +kernel
theorem dX5_tuneOne_101 : decode cX5_tuneOne 101 = .ok (.goto (-74), 3) := by decide +kernel
theorem dX5_tuneOne_104 : decode cX5_tuneOne 104 = .ok (.aload_n 0, 1) := by decide +kernel
theorem dX5_tuneOne_105 : decode cX5_tuneOne 105 = .ok (.getfield 25, 3) := by decide +kernel
theorem dX5_tuneOne_108 : decode cX5_tuneOne 108 = .ok (.getfield 84, 3) := by decide +kernel
theorem dX5_tuneOne_111 : decode cX5_tuneOne 111 = .ok (.iload_n 1, 1) := by decide +kernel
theorem dX5_tuneOne_112 : decode cX5_tuneOne 112 = .ok (.iload_n 3, 1) := by decide +kernel
theorem dX5_tuneOne_113 : decode cX5_tuneOne 113 = .ok (.iastore, 1) := by decide +kernel
theorem dX5_tuneOne_114 : decode cX5_tuneOne 114 = .ok (.return_, 1) := by decide +kernel
set_option maxRecDepth 20000 in
theorem ggX5_findStrings_X4_gather : GoodIn wsX5_findStrings wsX4_gather := goodIn_r _ [10, 11, 12, 13, 14, 9, 15, 16, 17, 18, 19, 20, 21, 22, 23, 24, 25, 26, 27, 28, 29, 30, 31, 32, 33, 34, 35, 36, 37, 38, 39, 40, 41, 42, 43, 44, 45, 46, 47, 91, 92, 93, 94, 95, 96, 97, 98, 99, 100] (by decide +kernel) (by decide +kernel)
set_option maxRecDepth 20000 in
theorem gX5_findStrings_X4_gather : GoodIn wsX5_findStrings (wsV RX5 183 RX4 yX4_gather wsX4_gather) := goodIn_app (goodIn_of _ (by decide +kernel)) ggX5_findStrings_X4_gather
set_option maxRecDepth 20000 in
theorem ggX5_findStrings_X4_solve : GoodIn wsX5_findStrings wsX4_solve := goodIn_r _ [51, 52, 53, 54, 55, 56, 57, 58, 9, 59, 41, 42, 43, 44, 60, 61, 62, 63, 11, 91, 92, 93, 94, 95] (by decide +kernel) (by decide +kernel)
set_option maxRecDepth 20000 in
theorem gX5_findStrings_X4_solve : GoodIn wsX5_findStrings (wsV RX5 255 RX4 yX4_solve wsX4_solve) := goodIn_app (goodIn_of _ (by decide +kernel)) ggX5_findStrings_X4_solve
set_option maxRecDepth 20000 in
theorem ggX5_findStrings_X4_fewestStrings : GoodIn wsX5_findStrings wsX4_fewestStrings := goodIn_r _ [67, 52, 68, 69, 70, 9, 71, 54, 91, 92, 93, 94, 95] (by decide +kernel) (by decide +kernel)
set_option maxRecDepth 20000 in
theorem gX5_findStrings_X4_fewestStrings : GoodIn wsX5_findStrings (wsV RX5 258 RX4 yX4_fewestStrings wsX4_fewestStrings) := goodIn_app (goodIn_of _ (by decide +kernel)) ggX5_findStrings_X4_fewestStrings
set_option maxRecDepth 20000 in
theorem ggX5_findStrings_X4_bestStrings : GoodIn wsX5_findStrings wsX4_bestStrings := goodIn_r _ [75, 76, 55, 52, 68, 69, 70, 9, 71, 54, 91, 92, 93, 94, 95] (by decide +kernel) (by decide +kernel)
set_option maxRecDepth 20000 in
theorem gX5_findStrings_X4_bestStrings : GoodIn wsX5_findStrings (wsV RX5 261 RX4 yX4_bestStrings wsX4_bestStrings) := goodIn_app (goodIn_of _ (by decide +kernel)) ggX5_findStrings_X4_bestStrings
theorem dX5_findStrings_0 : decode cX5_findStrings 0 = .ok (.aload_n 0, 1) := by decide +kernel
theorem dX5_findStrings_1 : decode cX5_findStrings 1 = .ok (.getfield 48, 3) := by decide +kernel
theorem dX5_findStrings_4 : decode cX5_findStrings 4 = .ok (.aload_n 0, 1) := by decide +kernel
theorem dX5_findStrings_5 : decode cX5_findStrings 5 = .ok (.getfield 41, 3) := by decide +kernel
theorem dX5_findStrings_8 : decode cX5_findStrings 8 = .ok (.aload_n 0, 1) := by decide +kernel
theorem dX5_findStrings_9 : decode cX5_findStrings 9 = .ok (.getfield 19, 3) := by decide +kernel
theorem dX5_findStrings_12 : decode cX5_findStrings 12 = .ok (.invokevirtual 183, 3) := by decide +kernel
theorem dX5_findStrings_15 : decode cX5_findStrings 15 = .ok (.aload_n 0, 1) := by decide +kernel
theorem dX5_findStrings_16 : decode cX5_findStrings 16 = .ok (.getfield 48, 3) := by decide +kernel
theorem dX5_findStrings_19 : decode cX5_findStrings 19 = .ok (.aload_n 0, 1) := by decide +kernel
theorem dX5_findStrings_20 : decode cX5_findStrings 20 = .ok (.getfield 25, 3) := by decide +kernel
theorem dX5_findStrings_23 : decode cX5_findStrings 23 = .ok (.getfield 66, 3) := by decide +kernel
theorem dX5_findStrings_26 : decode cX5_findStrings 26 = .ok (.iload_n 1, 1) := by decide +kernel
theorem dX5_findStrings_27 : decode cX5_findStrings 27 = .ok (.invokevirtual 255, 3) := by decide +kernel
theorem dX5_findStrings_30 : decode cX5_findStrings 30 = .ok (.iload_n 2, 1) := by decide +kernel
theorem dX5_findStrings_31 : decode cX5_findStrings 31 = .ok (.ifCond .ne 13, 3) := by decide +kernel
theorem dX5_findStrings_34 : decode cX5_findStrings 34 = .ok (.aload_n 0, 1) := by decide +kernel
theorem dX5_findStrings_35 : decode cX5_findStrings 35 = .ok (.getfield 48, 3) := by decide +kernel
theorem dX5_findStrings_38 : decode cX5_findStrings 38 = .ok (.invokevirtual 258, 3) := by decide +kernel
theorem dX5_findStrings_41 : decode cX5_findStrings 41 = .ok (.goto 11, 3) := by decide +kernel
theorem dX5_findStrings_44 : decode cX5_findStrings 44 = .ok (.aload_n 0, 1) := by decide +kernel
theorem dX5_findStrings_45 : decode cX5_findStrings 45 = .ok (.getfield 48, 3) := by decide +kernel
theorem dX5_findStrings_48 : decode cX5_findStrings 48 = .ok (.iload_n 2, 1) := by decide +kernel
theorem dX5_findStrings_49 : decode cX5_findStrings 49 = .ok (.invokevirtual 261, 3) := by decide +kernel
theorem dX5_findStrings_52 : decode cX5_findStrings 52 = .ok (.ireturn, 1) := by decide +kernel
theorem dX5_within_0 : decode cX5_within 0 = .ok (.iload_n 1, 1) := by decide +kernel
theorem dX5_within_1 : decode cX5_within 1 = .ok (.iload_n 0, 1) := by decide +kernel
theorem dX5_within_2 : decode cX5_within 2 = .ok (.if_icmp .gt 12, 3) := by decide +kernel
theorem dX5_within_5 : decode cX5_within 5 = .ok (.iload_n 0, 1) := by decide +kernel
theorem dX5_within_6 : decode cX5_within 6 = .ok (.iload_n 2, 1) := by decide +kernel
theorem dX5_within_7 : decode cX5_within 7 = .ok (.if_icmp .gt 7, 3) := by decide +kernel
theorem dX5_within_10 : decode cX5_within 10 = .ok (.iconst 1, 1) := by decide +kernel
theorem dX5_within_11 : decode cX5_within 11 = .ok (.goto 4, 3) := by decide +kernel
theorem dX5_within_14 : decode cX5_within 14 = .ok (.iconst 0, 1) := by decide +kernel
theorem dX5_within_15 : decode cX5_within 15 = .ok (.ireturn, 1) := by decide +kernel
set_option maxRecDepth 20000 in
theorem ggX5_isString_X5_within : GoodIn wsX5_isString wsX5_within := goodIn_r _ [4] (by decide +kernel) (by decide +kernel)
set_option maxRecDepth 20000 in
theorem gX5_isString_X5_within : GoodIn wsX5_isString (va_wsS RX5 61 yX5_within wsX5_within) := goodIn_app (goodIn_of _ (by decide +kernel)) ggX5_isString_X5_within
theorem dX5_isString_0 : decode cX5_isString 0 = .ok (.iload_n 0, 1) := by decide +kernel
theorem dX5_isString_1 : decode cX5_isString 1 = .ok (.iconst 0, 1) := by decide +kernel
theorem dX5_isString_2 : decode cX5_isString 2 = .ok (.bipush 23, 2) := by decide +kernel
theorem dX5_isString_4 : decode cX5_isString 4 = .ok (.invokestatic 61, 3) := by decide +kernel
theorem dX5_isString_7 : decode cX5_isString 7 = .ok (.ireturn, 1) := by decide +kernel
set_option maxRecDepth 20000 in
theorem ggX5_isScale_X5_within : GoodIn wsX5_isScale wsX5_within := goodIn_r _ [4] (by decide +kernel) (by decide +kernel)
set_option maxRecDepth 20000 in
theorem gX5_isScale_X5_within : GoodIn wsX5_isScale (va_wsS RX5 61 yX5_within wsX5_within) := goodIn_app (goodIn_of _ (by decide +kernel)) ggX5_isScale_X5_within
theorem dX5_isScale_0 : decode cX5_isScale 0 = .ok (.iload_n 0, 1) := by decide +kernel
theorem dX5_isScale_1 : decode cX5_isScale 1 = .ok (.iconst 0, 1) := by decide +kernel
theorem dX5_isScale_2 : decode cX5_isScale 2 = .ok (.iconst 4, 1) := by decide +kernel
theorem dX5_isScale_3 : decode cX5_isScale 3 = .ok (.invokestatic 61, 3) := by decide +kernel
theorem dX5_isScale_6 : decode cX5_isScale 6 = .ok (.ireturn, 1) := by decide +kernel
set_option maxRecDepth 20000 in
theorem ggX5_isStep_X5_within : GoodIn wsX5_isStep wsX5_within := goodIn_r _ [4] (by decide +kernel) (by decide +kernel)
set_option maxRecDepth 20000 in
theorem gX5_isStep_X5_within : GoodIn wsX5_isStep (va_wsS RX5 61 yX5_within wsX5_within) := goodIn_app (goodIn_of _ (by decide +kernel)) ggX5_isStep_X5_within
theorem dX5_isStep_0 : decode cX5_isStep 0 = .ok (.iload_n 0, 1) := by decide +kernel
theorem dX5_isStep_1 : decode cX5_isStep 1 = .ok (.iconst 0, 1) := by decide +kernel
theorem dX5_isStep_2 : decode cX5_isStep 2 = .ok (.bipush 11, 2) := by decide +kernel
theorem dX5_isStep_4 : decode cX5_isStep 4 = .ok (.invokestatic 61, 3) := by decide +kernel
theorem dX5_isStep_7 : decode cX5_isStep 7 = .ok (.ireturn, 1) := by decide +kernel
set_option maxRecDepth 20000 in
theorem ggX5_isPitch_X5_within : GoodIn wsX5_isPitch wsX5_within := goodIn_r _ [5] (by decide +kernel) (by decide +kernel)
set_option maxRecDepth 20000 in
theorem gX5_isPitch_X5_within : GoodIn wsX5_isPitch (va_wsS RX5 61 yX5_within wsX5_within) := goodIn_app (goodIn_of _ (by decide +kernel)) ggX5_isPitch_X5_within
theorem dX5_isPitch_0 : decode cX5_isPitch 0 = .ok (.iload_n 0, 1) := by decide +kernel
theorem dX5_isPitch_1 : decode cX5_isPitch 1 = .ok (.sipush 1000, 3) := by decide +kernel
theorem dX5_isPitch_4 : decode cX5_isPitch 4 = .ok (.ldc_w 264, 3) := by decide +kernel
theorem dX5_isPitch_7 : decode cX5_isPitch 7 = .ok (.invokestatic 61, 3) := by decide +kernel
theorem dX5_isPitch_10 : decode cX5_isPitch 10 = .ok (.ireturn, 1) := by decide +kernel
set_option maxRecDepth 20000 in
theorem ggX5_isPiece_X5_within : GoodIn wsX5_isPiece wsX5_within := goodIn_r _ [4] (by decide +kernel) (by decide +kernel)
set_option maxRecDepth 20000 in
theorem gX5_isPiece_X5_within : GoodIn wsX5_isPiece (va_wsS RX5 61 yX5_within wsX5_within) := goodIn_app (goodIn_of _ (by decide +kernel)) ggX5_isPiece_X5_within
theorem dX5_isPiece_0 : decode cX5_isPiece 0 = .ok (.iload_n 0, 1) := by decide +kernel
theorem dX5_isPiece_1 : decode cX5_isPiece 1 = .ok (.iconst 0, 1) := by decide +kernel
theorem dX5_isPiece_2 : decode cX5_isPiece 2 = .ok (.iconst 3, 1) := by decide +kernel
theorem dX5_isPiece_3 : decode cX5_isPiece 3 = .ok (.invokestatic 61, 3) := by decide +kernel
theorem dX5_isPiece_6 : decode cX5_isPiece 6 = .ok (.ireturn, 1) := by decide +kernel
set_option maxRecDepth 20000 in
theorem ggX5_isMost_X5_within : GoodIn wsX5_isMost wsX5_within := goodIn_r _ [4] (by decide +kernel) (by decide +kernel)
set_option maxRecDepth 20000 in
theorem gX5_isMost_X5_within : GoodIn wsX5_isMost (va_wsS RX5 61 yX5_within wsX5_within) := goodIn_app (goodIn_of _ (by decide +kernel)) ggX5_isMost_X5_within
theorem dX5_isMost_0 : decode cX5_isMost 0 = .ok (.iload_n 0, 1) := by decide +kernel
theorem dX5_isMost_1 : decode cX5_isMost 1 = .ok (.iconst 1, 1) := by decide +kernel
theorem dX5_isMost_2 : decode cX5_isMost 2 = .ok (.bipush 6, 2) := by decide +kernel
theorem dX5_isMost_4 : decode cX5_isMost 4 = .ok (.invokestatic 61, 3) := by decide +kernel
theorem dX5_isMost_7 : decode cX5_isMost 7 = .ok (.ireturn, 1) := by decide +kernel
theorem dX5_asNumber_0 : decode cX5_asNumber 0 = .ok (.iload_n 0, 1) := by decide +kernel
theorem dX5_asNumber_1 : decode cX5_asNumber 1 = .ok (.ifCond .eq 7, 3) := by decide +kernel
theorem dX5_asNumber_4 : decode cX5_asNumber 4 = .ok (.iconst 1, 1) := by decide +kernel
theorem dX5_asNumber_5 : decode cX5_asNumber 5 = .ok (.goto 4, 3) := by decide +kernel
theorem dX5_asNumber_8 : decode cX5_asNumber 8 = .ok (.iconst 0, 1) := by decide +kernel
theorem dX5_asNumber_9 : decode cX5_asNumber 9 = .ok (.ireturn, 1) := by decide +kernel
