theorem dX2_takeRow_20 : decode cX2_takeRow 20 = .ok (.ifCond .lt 24, 3) := by decide +kernel
theorem dX2_takeRow_23 : decode cX2_takeRow 23 = .ok (.aload_n 0, 1) := by decide +kernel
theorem dX2_takeRow_24 : decode cX2_takeRow 24 = .ok (.getfield 24, 3) := by decide +kernel
theorem dX2_takeRow_27 : decode cX2_takeRow 27 = .ok (.iload_n 3, 1) := by decide +kernel
theorem dX2_takeRow_28 : decode cX2_takeRow 28 = .ok (.iload_n 2, 1) := by decide +kernel
theorem dX2_takeRow_29 : decode cX2_takeRow 29 = .ok (.bipush 10, 2) := by decide +kernel
theorem dX2_takeRow_31 : decode cX2_takeRow 31 = .ok (.irem, 1) := by decide +kernel
theorem dX2_takeRow_32 : decode cX2_takeRow 32 = .ok (.iastore, 1) := by decide +kernel
theorem dX2_takeRow_33 : decode cX2_takeRow 33 = .ok (.iload_n 2, 1) := by decide +kernel
theorem dX2_takeRow_34 : decode cX2_takeRow 34 = .ok (.bipush 10, 2) := by decide +kernel
theorem dX2_takeRow_36 : decode cX2_takeRow 36 = .ok (.idiv, 1) := by decide +kernel
theorem dX2_takeRow_37 : decode cX2_takeRow 37 = .ok (.istore_n 2, 1) := by decide +kernel
theorem dX2_takeRow_38 : decode cX2_takeRow 38 = .ok (.iinc 3 (-1), 3) := by decide +kernel
theorem dX2_takeRow_41 : decode cX2_takeRow 41 = .ok (.goto (-22), 3) := by decide +kernel
theorem dX2_takeRow_44 : decode cX2_takeRow 44 = .ok (.iconst 1, 1) := by decide +kernel
theorem dX2_takeRow_45 : decode cX2_takeRow 45 = .ok (.ireturn, 1) := by decide +kernel
set_option maxRecDepth 20000 in
theorem ggX2_isRow_X2_allSet : GoodIn wsX2_isRow wsX2_allSet := goodIn_r _ [6, 1, 7, 8, 9, 10, 11, 12, 13, 14] (by decide +kernel) (by decide +kernel)
set_option maxRecDepth 20000 in
theorem gX2_isRow_X2_allSet : GoodIn wsX2_isRow (wsV RX2 47 RX2 yX2_allSet wsX2_allSet) := goodIn_app (goodIn_of _ (by decide +kernel)) ggX2_isRow_X2_allSet
theorem dX2_isRow_0 : decode cX2_isRow 0 = .ok (.iload_n 1, 1) := by decide +kernel
theorem dX2_isRow_1 : decode cX2_isRow 1 = .ok (.ifCond .ge 5, 3) := by decide +kernel
theorem dX2_isRow_4 : decode cX2_isRow 4 = .ok (.iconst 0, 1) := by decide +kernel
theorem dX2_isRow_5 : decode cX2_isRow 5 = .ok (.ireturn, 1) := by decide +kernel
theorem dX2_isRow_6 : decode cX2_isRow 6 = .ok (.iconst 0, 1) := by decide +kernel
theorem dX2_isRow_7 : decode cX2_isRow 7 = .ok (.istore_n 2, 1) := by decide +kernel
theorem dX2_isRow_8 : decode cX2_isRow 8 = .ok (.iload_n 1, 1) := by decide +kernel
theorem dX2_isRow_9 : decode cX2_isRow 9 = .ok (.istore_n 3, 1) := by decide +kernel
theorem dX2_isRow_10 : decode cX2_isRow 10 = .ok (.iconst 0, 1) := by decide +kernel
theorem dX2_isRow_11 : decode cX2_isRow 11 = .ok (.istore 4, 2) := by decide +kernel
theorem dX2_isRow_13 : decode cX2_isRow 13 = .ok (.iload 4, 2) := by decide +kernel
theorem dX2_isRow_15 : decode cX2_isRow 15 = .ok (.aload_n 0, 1) := by decide +kernel
theorem dX2_isRow_16 : decode cX2_isRow 16 = .ok (.getfield 27, 3) := by decide +kernel
theorem dX2_isRow_19 : decode cX2_isRow 19 = .ok (.if_icmp .ge 38, 3) := by decide +kernel
theorem dX2_isRow_22 : decode cX2_isRow 22 = .ok (.iload_n 3, 1) := by decide +kernel
theorem dX2_isRow_23 : decode cX2_isRow 23 = .ok (.bipush 10, 2) := by decide +kernel
theorem dX2_isRow_25 : decode cX2_isRow 25 = .ok (.irem, 1) := by decide +kernel
theorem dX2_isRow_26 : decode cX2_isRow 26 = .ok (.istore 5, 2) := by decide +kernel
theorem dX2_isRow_28 : decode cX2_isRow 28 = .ok (.iload 5, 2) := by decide +kernel
theorem dX2_isRow_30 : decode cX2_isRow 30 = .ok (.aload_n 0, 1) := by decide +kernel
theorem dX2_isRow_31 : decode cX2_isRow 31 = .ok (.getfield 27, 3) := by decide +kernel
theorem dX2_isRow_34 : decode cX2_isRow 34 = .ok (.if_icmp .lt 5, 3) := by decide +kernel
theorem dX2_isRow_37 : decode cX2_isRow 37 = .ok (.iconst 0, 1) := by decide +kernel
theorem dX2_isRow_38 : decode cX2_isRow 38 = .ok (.ireturn, 1) := by decide +kernel
theorem dX2_isRow_39 : decode cX2_isRow 39 = .ok (.iload_n 2, 1) := by decide +kernel
theorem dX2_isRow_40 : decode cX2_isRow 40 = .ok (.iconst 1, 1) := by decide +kernel
theorem dX2_isRow_41 : decode cX2_isRow 41 = .ok (.iload 5, 2) := by decide +kernel
theorem dX2_isRow_43 : decode cX2_isRow 43 = .ok (.ishl, 1) := by decide +kernel
theorem dX2_isRow_44 : decode cX2_isRow 44 = .ok (.ior, 1) := by decide +kernel
theorem dX2_isRow_45 : decode cX2_isRow 45 = .ok (.istore_n 2, 1) := by decide +kernel
theorem dX2_isRow_46 : decode cX2_isRow 46 = .ok (.iload_n 3, 1) := by decide +kernel
theorem dX2_isRow_47 : decode cX2_isRow 47 = .ok (.bipush 10, 2) := by decide +kernel
theorem dX2_isRow_49 : decode cX2_isRow 49 = .ok (.idiv, 1) := by decide +kernel
theorem dX2_isRow_50 : decode cX2_isRow 50 = .ok (.istore_n 3, 1) := by decide +kernel
theorem dX2_isRow_51 : decode cX2_isRow 51 = .ok (.iinc 4 1, 3) := by decide +kernel
theorem dX2_isRow_54 : decode cX2_isRow 54 = .ok (.goto (-41), 3) := by decide +kernel
theorem dX2_isRow_57 : decode cX2_isRow 57 = .ok (.iload_n 3, 1) := by decide +kernel
theorem dX2_isRow_58 : decode cX2_isRow 58 = .ok (.ifCond .ne 15, 3) := by decide +kernel
theorem dX2_isRow_61 : decode cX2_isRow 61 = .ok (.iload_n 2, 1) := by decide +kernel
theorem dX2_isRow_62 : decode cX2_isRow 62 = .ok (.aload_n 0, 1) := by decide +kernel
theorem dX2_isRow_63 : decode cX2_isRow 63 = .ok (.invokevirtual 47, 3) := by decide +kernel
theorem dX2_isRow_66 : decode cX2_isRow 66 = .ok (.if_icmp .ne 7, 3) := by decide +kernel
theorem dX2_isRow_69 : decode cX2_isRow 69 = .ok (.iconst 1, 1) := by decide +kernel
theorem dX2_isRow_70 : decode cX2_isRow 70 = .ok (.goto 4, 3) := by decide +kernel
theorem dX2_isRow_73 : decode cX2_isRow 73 = .ok (.iconst 0, 1) := by decide +kernel
theorem dX2_isRow_74 : decode cX2_isRow 74 = .ok (.ireturn, 1) := by decide +kernel
theorem dX3_init_0 : decode cX3_init 0 = .ok (.aload_n 0, 1) := by decide +kernel
theorem dX3_init_1 : decode cX3_init 1 = .ok (.invokespecial 3, 3) := by decide +kernel
theorem dX3_init_4 : decode cX3_init 4 = .ok (.aload_n 0, 1) := by decide +kernel
theorem dX3_init_5 : decode cX3_init 5 = .ok (.bipush 6, 2) := by decide +kernel
theorem dX3_init_7 : decode cX3_init 7 = .ok (.newarray .long, 2) := by decide +kernel
theorem dX3_init_9 : decode cX3_init 9 = .ok (.putfield 9, 3) := by decide +kernel
theorem dX3_init_12 : decode cX3_init 12 = .ok (.aload_n 0, 1) := by decide +kernel
theorem dX3_init_13 : decode cX3_init 13 = .ok (.lconst 1, 1) := by decide +kernel
theorem dX3_init_14 : decode cX3_init 14 = .ok (.putfield 15, 3) := by decide +kernel
theorem dX3_init_17 : decode cX3_init 17 = .ok (.aload_n 0, 1) := by decide +kernel
theorem dX3_init_18 : decode cX3_init 18 = .ok (.bipush 6, 2) := by decide +kernel
theorem dX3_init_20 : decode cX3_init 20 = .ok (.newarray .long, 2) := by decide +kernel
theorem dX3_init_22 : decode cX3_init 22 = .ok (.putfield 19, 3) := by decide +kernel
theorem dX3_init_25 : decode cX3_init 25 = .ok (.aload_n 0, 1) := by decide +kernel
theorem dX3_init_26 : decode cX3_init 26 = .ok (.bipush 6, 2) := by decide +kernel
theorem dX3_init_28 : decode cX3_init 28 = .ok (.newarray .long, 2) := by decide +kernel
theorem dX3_init_30 : decode cX3_init 30 = .ok (.putfield 22, 3) := by decide +kernel
theorem dX3_init_33 : decode cX3_init 33 = .ok (.aload_n 0, 1) := by decide +kernel
theorem dX3_init_34 : decode cX3_init 34 = .ok (.bipush 7, 2) := by decide +kernel
theorem dX3_init_36 : decode cX3_init 36 = .ok (.newarray .long, 2) := by decide +kernel
theorem dX3_init_38 : decode cX3_init 38 = .ok (.putfield 25, 3) := by decide +kernel
theorem dX3_init_41 : decode cX3_init 41 = .ok (.aload_n 0, 1) := by decide +kernel
theorem dX3_init_42 : decode cX3_init 42 = .ok (.bipush 36, 2) := by decide +kernel
theorem dX3_init_44 : decode cX3_init 44 = .ok (.newarray .long, 2) := by decide +kernel
theorem dX3_init_46 : decode cX3_init 46 = .ok (.putfield 28, 3) := by decide +kernel
theorem dX3_init_49 : decode cX3_init 49 = .ok (.return_, 1) := by decide +kernel
set_option maxRecDepth 20000 in
theorem ggX3_settle_X3_settleHolding : GoodIn wsX3_settle wsX3_settleHolding := goodIn_r _ [5, 6, 7, 8, 9, 10, 11, 12, 13, 14, 15, 16, 17, 18, 4, 19, 20, 21, 22, 23, 24, 25, 26, 27, 28, 29, 30, 31, 32, 33, 34, 35, 36, 37, 38, 39, 40, 41, 42, 43, 44, 45, 46, 47, 48, 49, 50, 51, 52, 53, 54, 55, 56, 57, 58] (by decide +kernel) (by decide +kernel)
set_option maxRecDepth 20000 in
theorem gX3_settle_X3_settleHolding : GoodIn wsX3_settle (wsV RX3 31 RX3 yX3_settleHolding wsX3_settleHolding) := goodIn_app (goodIn_of _ (by decide +kernel)) ggX3_settle_X3_settleHolding
theorem dX3_settle_0 : decode cX3_settle 0 = .ok (.aload_n 0, 1) := by decide +kernel
theorem dX3_settle_1 : decode cX3_settle 1 = .ok (.aload_n 1, 1) := by decide +kernel
theorem dX3_settle_2 : decode cX3_settle 2 = .ok (.aload_n 2, 1) := by decide +kernel
theorem dX3_settle_3 : decode cX3_settle 3 = .ok (.iconst (-1), 1) := by decide +kernel
theorem dX3_settle_4 : decode cX3_settle 4 = .ok (.iconst 0, 1) := by decide +kernel
theorem dX3_settle_5 : decode cX3_settle 5 = .ok (.invokevirtual 31, 3) := by decide +kernel
theorem dX3_settle_8 : decode cX3_settle 8 = .ok (.return_, 1) := by decide +kernel
set_option maxRecDepth 20000 in
theorem ggX3_settleHolding_X2_allSet : GoodIn wsX3_settleHolding wsX2_allSet := goodIn_r _ [9, 10, 41, 42, 43, 44, 45, 46, 47, 48] (by decide +kernel) (by decide +kernel)
set_option maxRecDepth 20000 in
theorem gX3_settleHolding_X2_allSet : GoodIn wsX3_settleHolding (wsV RX3 35 RX2 yX2_allSet wsX2_allSet) := goodIn_app (goodIn_of _ (by decide +kernel)) ggX3_settleHolding_X2_allSet
set_option maxRecDepth 20000 in
theorem ggX3_settleHolding_X3_fillSystem : GoodIn wsX3_settleHolding wsX3_fillSystem := goodIn_r _ [15, 3, 16, 4, 17, 18, 19, 20, 2, 41, 42, 43, 44, 45, 46, 47, 48, 49, 50, 51, 52, 53, 54] (by decide +kernel) (by decide +kernel)
set_option maxRecDepth 20000 in
theorem gX3_settleHolding_X3_fillSystem : GoodIn wsX3_settleHolding (wsV RX3 45 RX3 yX3_fillSystem wsX3_fillSystem) := goodIn_app (goodIn_of _ (by decide +kernel)) ggX3_settleHolding_X3_fillSystem
set_option maxRecDepth 20000 in
theorem ggX3_settleHolding_X3_fillArcs : GoodIn wsX3_settleHolding wsX3_fillArcs := goodIn_r _ [24, 25, 20, 26, 49, 50, 51, 52, 53, 54] (by decide +kernel) (by decide +kernel)
set_option maxRecDepth 20000 in
theorem gX3_settleHolding_X3_fillArcs : GoodIn wsX3_settleHolding (wsV RX3 54 RX3 yX3_fillArcs wsX3_fillArcs) := goodIn_app (goodIn_of _ (by decide +kernel)) ggX3_settleHolding_X3_fillArcs
set_option maxRecDepth 20000 in
theorem ggX3_settleHolding_X3_solve : GoodIn wsX3_settleHolding wsX3_solve := goodIn_r _ [30, 20, 25, 16, 26, 31, 2, 32, 49, 50, 51, 52, 53, 54] (by decide +kernel) (by decide +kernel)
set_option maxRecDepth 20000 in
theorem gX3_settleHolding_X3_solve : GoodIn wsX3_settleHolding (wsV RX3 58 RX3 yX3_solve wsX3_solve) := goodIn_app (goodIn_of _ (by decide +kernel)) ggX3_settleHolding_X3_solve
set_option maxRecDepth 20000 in
theorem ggX3_settleHolding_X3_liftedSet : GoodIn wsX3_settleHolding wsX3_liftedSet := goodIn_r _ [36, 3, 32, 41, 42, 43, 44, 45, 46, 47, 48, 49, 50, 51, 52, 53, 54] (by decide +kernel) (by decide +kernel)
set_option maxRecDepth 20000 in
theorem gX3_settleHolding_X3_liftedSet : GoodIn wsX3_settleHolding (wsV RX3 61 RX3 yX3_liftedSet wsX3_liftedSet) := goodIn_app (goodIn_of _ (by decide +kernel)) ggX3_settleHolding_X3_liftedSet
set_option maxRecDepth 20000 in
theorem ggX3_settleHolding_X3_aboveTurnsSet : GoodIn wsX3_settleHolding wsX3_aboveTurnsSet := goodIn_r _ [40, 3, 32, 31, 18, 41, 42, 43, 44, 45, 46, 47, 48, 49, 50, 51, 52, 53, 54] (by decide +kernel) (by decide +kernel)
set_option maxRecDepth 20000 in
theorem gX3_settleHolding_X3_aboveTurnsSet : GoodIn wsX3_settleHolding (wsV RX3 65 RX3 yX3_aboveTurnsSet wsX3_aboveTurnsSet) := goodIn_app (goodIn_of _ (by decide +kernel)) ggX3_settleHolding_X3_aboveTurnsSet
theorem dX3_settleHolding_0 : decode cX3_settleHolding 0 = .ok (.aload_n 1, 1) := by decide +kernel
theorem dX3_settleHolding_1 : decode cX3_settleHolding 1 = .ok (.invokevirtual 35, 3) := by decide +kernel
theorem dX3_settleHolding_4 : decode cX3_settleHolding 4 = .ok (.aload_n 1, 1) := by decide +kernel
theorem dX3_settleHolding_5 : decode cX3_settleHolding 5 = .ok (.getfield 41, 3) := by decide +kernel
theorem dX3_settleHolding_8 : decode cX3_settleHolding 8 = .ok (.iconst (-1), 1) := by decide +kernel
theorem dX3_settleHolding_9 : decode cX3_settleHolding 9 = .ok (.ixor, 1) := by decide +kernel
theorem dX3_settleHolding_10 : decode cX3_settleHolding 10 = .ok (.iand, 1) := by decide +kernel
theorem dX3_settleHolding_11 : decode cX3_settleHolding 11 = .ok (.istore 5, 2) := by decide +kernel
theorem dX3_settleHolding_13 : decode cX3_settleHolding 13 = .ok (.iload_n 3, 1) := by decide +kernel
theorem dX3_settleHolding_14 : decode cX3_settleHolding 14 = .ok (.iconst (-1), 1) := by decide +kernel
theorem dX3_settleHolding_15 : decode cX3_settleHolding 15 = .ok (.if_icmp .eq 13, 3) := by decide +kernel
theorem dX3_settleHolding_18 : decode cX3_settleHolding 18 = .ok (.iload 5, 2) := by decide +kernel
theorem dX3_settleHolding_20 : decode cX3_settleHolding 20 = .ok (.iconst 1, 1) := by decide +kernel
theorem dX3_settleHolding_21 : decode cX3_settleHolding 21 = .ok (.iload_n 3, 1) := by decide +kernel
theorem dX3_settleHolding_22 : decode cX3_settleHolding 22 = .ok (.ishl, 1) := by decide +kernel
theorem dX3_settleHolding_23 : decode cX3_settleHolding 23 = .ok (.iconst (-1), 1) := by decide +kernel
theorem dX3_settleHolding_24 : decode cX3_settleHolding 24 = .ok (.ixor, 1) := by decide +kernel
theorem dX3_settleHolding_25 : decode cX3_settleHolding 25 = .ok (.iand, 1) := by decide +kernel
theorem dX3_settleHolding_26 : decode cX3_settleHolding 26 = .ok (.istore 5, 2) := by decide +kernel
theorem dX3_settleHolding_28 : decode cX3_settleHolding 28 = .ok (.aload_n 1, 1) := by decide +kernel
theorem dX3_settleHolding_29 : decode cX3_settleHolding 29 = .ok (.invokevirtual 35, 3) := by decide +kernel
theorem dX3_settleHolding_32 : decode cX3_settleHolding 32 = .ok (.istore 6, 2) := by decide +kernel
theorem dX3_settleHolding_34 : decode cX3_settleHolding 34 = .ok (.iconst 0, 1) := by decide +kernel
theorem dX3_settleHolding_35 : decode cX3_settleHolding 35 = .ok (.istore 7, 2) := by decide +kernel
theorem dX3_settleHolding_37 : decode cX3_settleHolding 37 = .ok (.iload 7, 2) := by decide +kernel
theorem dX3_settleHolding_39 : decode cX3_settleHolding 39 = .ok (.sipush 200, 3) := by decide +kernel
theorem dX3_settleHolding_42 : decode cX3_settleHolding 42 = .ok (.if_icmp .ge 109, 3) := by decide +kernel
theorem dX3_settleHolding_45 : decode cX3_settleHolding 45 = .ok (.aload_n 0, 1) := by decide +kernel
theorem dX3_settleHolding_46 : decode cX3_settleHolding 46 = .ok (.aload_n 1, 1) := by decide +kernel
theorem dX3_settleHolding_47 : decode cX3_settleHolding 47 = .ok (.aload_n 2, 1) := by decide +kernel
theorem dX3_settleHolding_48 : decode cX3_settleHolding 48 = .ok (.iload 5, 2) := by decide +kernel
theorem dX3_settleHolding_50 : decode cX3_settleHolding 50 = .ok (.iload 6, 2) := by decide +kernel
theorem dX3_settleHolding_52 : decode cX3_settleHolding 52 = .ok (.invokevirtual 45, 3) := by decide +kernel
theorem dX3_settleHolding_55 : decode cX3_settleHolding 55 = .ok (.iload_n 3, 1) := by decide +kernel
theorem dX3_settleHolding_56 : decode cX3_settleHolding 56 = .ok (.iconst (-1), 1) := by decide +kernel
theorem dX3_settleHolding_57 : decode cX3_settleHolding 57 = .ok (.if_icmp .eq 15, 3) := by decide +kernel
theorem dX3_settleHolding_60 : decode cX3_settleHolding 60 = .ok (.aload_n 0, 1) := by decide +kernel
theorem dX3_settleHolding_61 : decode cX3_settleHolding 61 = .ok (.getfield 22, 3) := by decide +kernel
theorem dX3_settleHolding_64 : decode cX3_settleHolding 64 = .ok (.iload_n 3, 1) := by decide +kernel
theorem dX3_settleHolding_65 : decode cX3_settleHolding 65 = .ok (.dup2, 1) := by decide +kernel
theorem dX3_settleHolding_66 : decode cX3_settleHolding 66 = .ok (.laload, 1) := by decide +kernel
theorem dX3_settleHolding_67 : decode cX3_settleHolding 67 = .ok (.iload 4, 2) := by decide +kernel
theorem dX3_settleHolding_69 : decode cX3_settleHolding 69 = .ok (.i2l, 1) := by decide +kernel
theorem dX3_settleHolding_70 : decode cX3_settleHolding 70 = .ok (.ladd, 1) := by decide +kernel
theorem dX3_settleHolding_71 : decode cX3_settleHolding 71 = .ok (.lastore, 1) := by decide +kernel
theorem dX3_settleHolding_72 : decode cX3_settleHolding 72 = .ok (.aload_n 0, 1) := by decide +kernel
theorem dX3_settleHolding_73 : decode cX3_settleHolding 73 = .ok (.aload_n 1, 1) := by decide +kernel
theorem dX3_settleHolding_74 : decode cX3_settleHolding 74 = .ok (.getfield 48, 3) := by decide +kernel
theorem dX3_settleHolding_77 : decode cX3_settleHolding 77 = .ok (.aload_n 1, 1) := by decide +kernel
theorem dX3_settleHolding_78 : decode cX3_settleHolding 78 = .ok (.getfield 51, 3) := by decide +kernel
theorem dX3_settleHolding_81 : decode cX3_settleHolding 81 = .ok (.invokevirtual 54, 3) := by decide +kernel
theorem dX3_settleHolding_84 : decode cX3_settleHolding 84 = .ok (.aload_n 0, 1) := by decide +kernel
theorem dX3_settleHolding_85 : decode cX3_settleHolding 85 = .ok (.aload_n 1, 1) := by decide +kernel
theorem dX3_settleHolding_86 : decode cX3_settleHolding 86 = .ok (.getfield 48, 3) := by decide +kernel
theorem dX3_settleHolding_89 : decode cX3_settleHolding 89 = .ok (.aload_n 1, 1) := by decide +kernel
theorem dX3_settleHolding_90 : decode cX3_settleHolding 90 = .ok (.getfield 51, 3) := by decide +kernel
theorem dX3_settleHolding_93 : decode cX3_settleHolding 93 = .ok (.invokevirtual 58, 3) := by decide +kernel
theorem dX3_settleHolding_96 : decode cX3_settleHolding 96 = .ok (.aload_n 0, 1) := by decide +kernel
theorem dX3_settleHolding_97 : decode cX3_settleHolding 97 = .ok (.aload_n 1, 1) := by decide +kernel
theorem dX3_settleHolding_98 : decode cX3_settleHolding 98 = .ok (.invokevirtual 61, 3) := by decide +kernel
theorem dX3_settleHolding_101 : decode cX3_settleHolding 101 = .ok (.istore 8, 2) := by decide +kernel
theorem dX3_settleHolding_103 : decode cX3_settleHolding 103 = .ok (.iload 5, 2) := by decide +kernel
theorem dX3_settleHolding_105 : decode cX3_settleHolding 105 = .ok (.aload_n 0, 1) := by decide +kernel
theorem dX3_settleHolding_106 : decode cX3_settleHolding 106 = .ok (.aload_n 1, 1) := by decide +kernel
theorem dX3_settleHolding_107 : decode cX3_settleHolding 107 = .ok (.invokevirtual 65, 3) := by decide +kernel
theorem dX3_settleHolding_110 : decode cX3_settleHolding 110 = .ok (.iand, 1) := by decide +kernel
theorem dX3_settleHolding_111 : decode cX3_settleHolding 111 = .ok (.istore 9, 2) := by decide +kernel
theorem dX3_settleHolding_113 : decode cX3_settleHolding 113 = .ok (.iload 8, 2) := by decide +kernel
theorem dX3_settleHolding_115 : decode cX3_settleHolding 115 = .ok (.iload 6, 2) := by decide +kernel
theorem dX3_settleHolding_117 : decode cX3_settleHolding 117 = .ok (.if_icmp .eq 10, 3) := by decide +kernel
theorem dX3_settleHolding_120 : decode cX3_settleHolding 120 = .ok (.iload 8, 2) := by decide +kernel
theorem dX3_settleHolding_122 : decode cX3_settleHolding 122 = .ok (.istore 6, 2) := by decide +kernel
theorem dX3_settleHolding_124 : decode cX3_settleHolding 124 = .ok (.goto 21, 3) := by decide +kernel
theorem dX3_settleHolding_127 : decode cX3_settleHolding 127 = .ok (.iload 9, 2) := by decide +kernel
theorem dX3_settleHolding_129 : decode cX3_settleHolding 129 = .ok (.ifCond .eq 15, 3) := by decide +kernel
theorem dX3_settleHolding_132 : decode cX3_settleHolding 132 = .ok (.iload 5, 2) := by decide +kernel
theorem dX3_settleHolding_134 : decode cX3_settleHolding 134 = .ok (.iload 9, 2) := by decide +kernel
theorem dX3_settleHolding_136 : decode cX3_settleHolding 136 = .ok (.iconst (-1), 1) := by decide +kernel
theorem dX3_settleHolding_137 : decode cX3_settleHolding 137 = .ok (.ixor, 1) := by decide +kernel
theorem dX3_settleHolding_138 : decode cX3_settleHolding 138 = .ok (.iand, 1) := by decide +kernel
theorem dX3_settleHolding_139 : decode cX3_settleHolding 139 = .ok (.istore 5, 2) := by decide +kernel
theorem dX3_settleHolding_141 : decode cX3_settleHolding 141 = .ok (.goto 4, 3) := by decide +kernel
theorem dX3_settleHolding_144 : decode cX3_settleHolding 144 = .ok (.return_, 1) := by decide +kernel
theorem dX3_settleHolding_145 : decode cX3_settleHolding 145 = .ok (.iinc 7 1, 3) := by decide +kernel
theorem dX3_settleHolding_148 : decode cX3_settleHolding 148 = .ok (.goto (-111), 3) := by decide +kernel
theorem dX3_settleHolding_151 : decode cX3_settleHolding 151 = .ok (.return_, 1) := by decide +kernel
theorem dX3_fillSystem_0 : decode cX3_fillSystem 0 = .ok (.iconst 0, 1) := by decide +kernel
theorem dX3_fillSystem_1 : decode cX3_fillSystem 1 = .ok (.istore 5, 2) := by decide +kernel
theorem dX3_fillSystem_3 : decode cX3_fillSystem 3 = .ok (.iload 5, 2) := by decide +kernel
theorem dX3_fillSystem_5 : decode cX3_fillSystem 5 = .ok (.aload_n 1, 1) := by decide +kernel
theorem dX3_fillSystem_6 : decode cX3_fillSystem 6 = .ok (.getfield 48, 3) := by decide +kernel
theorem dX3_fillSystem_9 : decode cX3_fillSystem 9 = .ok (.if_icmp .ge 113, 3) := by decide +kernel
theorem dX3_fillSystem_12 : decode cX3_fillSystem 12 = .ok (.ldc2_w 68, 3) := by decide +kernel
theorem dX3_fillSystem_15 : decode cX3_fillSystem 15 = .ok (.aload_n 1, 1) := by decide +kernel
theorem dX3_fillSystem_16 : decode cX3_fillSystem 16 = .ok (.getfield 51, 3) := by decide +kernel
theorem dX3_fillSystem_19 : decode cX3_fillSystem 19 = .ok (.i2l, 1) := by decide +kernel
theorem dX3_fillSystem_20 : decode cX3_fillSystem 20 = .ok (.lmul, 1) := by decide +kernel
theorem dX3_fillSystem_21 : decode cX3_fillSystem 21 = .ok (.lstore 6, 2) := by decide +kernel
theorem dX3_fillSystem_23 : decode cX3_fillSystem 23 = .ok (.aload_n 2, 1) := by decide +kernel
theorem dX3_fillSystem_24 : decode cX3_fillSystem 24 = .ok (.iload 5, 2) := by decide +kernel
theorem dX3_fillSystem_26 : decode cX3_fillSystem 26 = .ok (.iaload, 1) := by decide +kernel
theorem dX3_fillSystem_27 : decode cX3_fillSystem 27 = .ok (.ineg, 1) := by decide +kernel
theorem dX3_fillSystem_28 : decode cX3_fillSystem 28 = .ok (.i2l, 1) := by decide +kernel
theorem dX3_fillSystem_29 : decode cX3_fillSystem 29 = .ok (.lstore 8, 2) := by decide +kernel
theorem dX3_fillSystem_31 : decode cX3_fillSystem 31 = .ok (.iload_n 3, 1) := by decide +kernel
theorem dX3_fillSystem_32 : decode cX3_fillSystem 32 = .ok (.iload 5, 2) := by decide +kernel
theorem dX3_fillSystem_34 : decode cX3_fillSystem 34 = .ok (.ishr, 1) := by decide +kernel
theorem dX3_fillSystem_35 : decode cX3_fillSystem 35 = .ok (.iconst 1, 1) := by decide +kernel
theorem dX3_fillSystem_36 : decode cX3_fillSystem 36 = .ok (.iand, 1) := by decide +kernel
theorem dX3_fillSystem_37 : decode cX3_fillSystem 37 = .ok (.ifCond .eq 38, 3) := by decide +kernel
theorem dX3_fillSystem_40 : decode cX3_fillSystem 40 = .ok (.lload 6, 2) := by decide +kernel
theorem dX3_fillSystem_42 : decode cX3_fillSystem 42 = .ok (.aload_n 1, 1) := by decide +kernel
theorem dX3_fillSystem_43 : decode cX3_fillSystem 43 = .ok (.getfield 70, 3) := by decide +kernel
theorem dX3_fillSystem_46 : decode cX3_fillSystem 46 = .ok (.iload 5, 2) := by decide +kernel
theorem dX3_fillSystem_48 : decode cX3_fillSystem 48 = .ok (.iaload, 1) := by decide +kernel
theorem dX3_fillSystem_49 : decode cX3_fillSystem 49 = .ok (.i2l, 1) := by decide +kernel
theorem dX3_fillSystem_50 : decode cX3_fillSystem 50 = .ok (.ladd, 1) := by decide +kernel
theorem dX3_fillSystem_51 : decode cX3_fillSystem 51 = .ok (.lstore 6, 2) := by decide +kernel
theorem dX3_fillSystem_53 : decode cX3_fillSystem 53 = .ok (.lload 8, 2) := by decide +kernel
theorem dX3_fillSystem_55 : decode cX3_fillSystem 55 = .ok (.aload_n 1, 1) := by decide +kernel
theorem dX3_fillSystem_56 : decode cX3_fillSystem 56 = .ok (.getfield 70, 3) := by decide +kernel
theorem dX3_fillSystem_59 : decode cX3_fillSystem 59 = .ok (.iload 5, 2) := by decide +kernel
theorem dX3_fillSystem_61 : decode cX3_fillSystem 61 = .ok (.iaload, 1) := by decide +kernel
theorem dX3_fillSystem_62 : decode cX3_fillSystem 62 = .ok (.i2l, 1) := by decide +kernel
theorem dX3_fillSystem_63 : decode cX3_fillSystem 63 = .ok (.aload_n 1, 1) := by decide +kernel
theorem dX3_fillSystem_64 : decode cX3_fillSystem 64 = .ok (.getfield 74, 3) := by decide +kernel
theorem dX3_fillSystem_67 : decode cX3_fillSystem 67 = .ok (.iload 5, 2) := by decide +kernel
theorem dX3_fillSystem_69 : decode cX3_fillSystem 69 = .ok (.iaload, 1) := by decide +kernel
theorem dX3_fillSystem_70 : decode cX3_fillSystem 70 = .ok (.i2l, 1) := by decide +kernel
theorem dX3_fillSystem_71 : decode cX3_fillSystem 71 = .ok (.lmul, 1) := by decide +kernel
theorem dX3_fillSystem_72 : decode cX3_fillSystem 72 = .ok (.ladd, 1) := by decide +kernel
theorem dX3_fillSystem_73 : decode cX3_fillSystem 73 = .ok (.lstore 8, 2) := by decide +kernel
theorem dX3_fillSystem_75 : decode cX3_fillSystem 75 = .ok (.iload 4, 2) := by decide +kernel
theorem dX3_fillSystem_77 : decode cX3_fillSystem 77 = .ok (.iload 5, 2) := by decide +kernel
theorem dX3_fillSystem_79 : decode cX3_fillSystem 79 = .ok (.ishr, 1) := by decide +kernel
theorem dX3_fillSystem_80 : decode cX3_fillSystem 80 = .ok (.iconst 1, 1) := by decide +kernel
theorem dX3_fillSystem_81 : decode cX3_fillSystem 81 = .ok (.iand, 1) := by decide +kernel
theorem dX3_fillSystem_82 : decode cX3_fillSystem 82 = .ok (.ifCond .eq 16, 3) := by decide +kernel
theorem dX3_fillSystem_85 : decode cX3_fillSystem 85 = .ok (.lload 6, 2) := by decide +kernel
theorem dX3_fillSystem_87 : decode cX3_fillSystem 87 = .ok (.aload_n 1, 1) := by decide +kernel
theorem dX3_fillSystem_88 : decode cX3_fillSystem 88 = .ok (.getfield 77, 3) := by decide +kernel
theorem dX3_fillSystem_91 : decode cX3_fillSystem 91 = .ok (.iload 5, 2) := by decide +kernel
theorem dX3_fillSystem_93 : decode cX3_fillSystem 93 = .ok (.iaload, 1) := by decide +kernel
theorem dX3_fillSystem_94 : decode cX3_fillSystem 94 = .ok (.i2l, 1) := by decide +kernel
theorem dX3_fillSystem_95 : decode cX3_fillSystem 95 = .ok (.ladd, 1) := by decide +kernel
theorem dX3_fillSystem_96 : decode cX3_fillSystem 96 = .ok (.lstore 6, 2) := by decide +kernel
theorem dX3_fillSystem_98 : decode cX3_fillSystem 98 = .ok (.aload_n 0, 1) := by decide +kernel
theorem dX3_fillSystem_99 : decode cX3_fillSystem 99 = .ok (.getfield 19, 3) := by decide +kernel
theorem dX3_fillSystem_102 : decode cX3_fillSystem 102 = .ok (.iload 5, 2) := by decide +kernel
theorem dX3_fillSystem_104 : decode cX3_fillSystem 104 = .ok (.lload 6, 2) := by decide +kernel
theorem dX3_fillSystem_106 : decode cX3_fillSystem 106 = .ok (.lastore, 1) := by decide +kernel
theorem dX3_fillSystem_107 : decode cX3_fillSystem 107 = .ok (.aload_n 0, 1) := by decide +kernel
theorem dX3_fillSystem_108 : decode cX3_fillSystem 108 = .ok (.getfield 22, 3) := by decide +kernel
theorem dX3_fillSystem_111 : decode cX3_fillSystem 111 = .ok (.iload 5, 2) := by decide +kernel
theorem dX3_fillSystem_113 : decode cX3_fillSystem 113 = .ok (.lload 8, 2) := by decide +kernel
theorem dX3_fillSystem_115 : decode cX3_fillSystem 115 = .ok (.lastore, 1) := by decide +kernel
theorem dX3_fillSystem_116 : decode cX3_fillSystem 116 = .ok (.iinc 5 1, 3) := by decide +kernel
theorem dX3_fillSystem_119 : decode cX3_fillSystem 119 = .ok (.goto (-116), 3) := by decide +kernel
theorem dX3_fillSystem_122 : decode cX3_fillSystem 122 = .ok (.return_, 1) := by decide +kernel
theorem dX3_fillArcs_0 : decode cX3_fillArcs 0 = .ok (.iload_n 2, 1) := by decide +kernel
theorem dX3_fillArcs_1 : decode cX3_fillArcs 1 = .ok (.i2l, 1) := by decide +kernel
theorem dX3_fillArcs_2 : decode cX3_fillArcs 2 = .ok (.iload_n 2, 1) := by decide +kernel
theorem dX3_fillArcs_3 : decode cX3_fillArcs 3 = .ok (.i2l, 1) := by decide +kernel
theorem dX3_fillArcs_4 : decode cX3_fillArcs 4 = .ok (.lmul, 1) := by decide +kernel
theorem dX3_fillArcs_5 : decode cX3_fillArcs 5 = .ok (.lstore_n 3, 1) := by decide +kernel
theorem dX3_fillArcs_6 : decode cX3_fillArcs 6 = .ok (.iconst 0, 1) := by decide +kernel
theorem dX3_fillArcs_7 : decode cX3_fillArcs 7 = .ok (.istore 5, 2) := by decide +kernel
theorem dX3_fillArcs_9 : decode cX3_fillArcs 9 = .ok (.iload 5, 2) := by decide +kernel
theorem dX3_fillArcs_11 : decode cX3_fillArcs 11 = .ok (.iload_n 1, 1) := by decide +kernel
theorem dX3_fillArcs_12 : decode cX3_fillArcs 12 = .ok (.if_icmp .ge 122, 3) := by decide +kernel
theorem dX3_fillArcs_15 : decode cX3_fillArcs 15 = .ok (.bipush 6, 2) := by decide +kernel
theorem dX3_fillArcs_17 : decode cX3_fillArcs 17 = .ok (.iload 5, 2) := by decide +kernel
theorem dX3_fillArcs_19 : decode cX3_fillArcs 19 = .ok (.imul, 1) := by decide +kernel
theorem dX3_fillArcs_20 : decode cX3_fillArcs 20 = .ok (.istore 6, 2) := by decide +kernel
theorem dX3_fillArcs_22 : decode cX3_fillArcs 22 = .ok (.aload_n 0, 1) := by decide +kernel
theorem dX3_fillArcs_23 : decode cX3_fillArcs 23 = .ok (.getfield 28, 3) := by decide +kernel
theorem dX3_fillArcs_26 : decode cX3_fillArcs 26 = .ok (.iload 6, 2) := by decide +kernel
theorem dX3_fillArcs_28 : decode cX3_fillArcs 28 = .ok (.lconst 1, 1) := by decide +kernel
theorem dX3_fillArcs_29 : decode cX3_fillArcs 29 = .ok (.lastore, 1) := by decide +kernel
theorem dX3_fillArcs_30 : decode cX3_fillArcs 30 = .ok (.aload_n 0, 1) := by decide +kernel
theorem dX3_fillArcs_31 : decode cX3_fillArcs 31 = .ok (.getfield 28, 3) := by decide +kernel
theorem dX3_fillArcs_34 : decode cX3_fillArcs 34 = .ok (.iload 6, 2) := by decide +kernel
theorem dX3_fillArcs_36 : decode cX3_fillArcs 36 = .ok (.iconst 1, 1) := by decide +kernel
theorem dX3_fillArcs_37 : decode cX3_fillArcs 37 = .ok (.iadd, 1) := by decide +kernel
theorem dX3_fillArcs_38 : decode cX3_fillArcs 38 = .ok (.aload_n 0, 1) := by decide +kernel
theorem dX3_fillArcs_39 : decode cX3_fillArcs 39 = .ok (.getfield 19, 3) := by decide +kernel
theorem dX3_fillArcs_42 : decode cX3_fillArcs 42 = .ok (.iload 5, 2) := by decide +kernel
theorem dX3_fillArcs_44 : decode cX3_fillArcs 44 = .ok (.laload, 1) := by decide +kernel
theorem dX3_fillArcs_45 : decode cX3_fillArcs 45 = .ok (.lastore, 1) := by decide +kernel
theorem dX3_fillArcs_46 : decode cX3_fillArcs 46 = .ok (.iload 5, 2) := by decide +kernel
theorem dX3_fillArcs_48 : decode cX3_fillArcs 48 = .ok (.istore 7, 2) := by decide +kernel
theorem dX3_fillArcs_50 : decode cX3_fillArcs 50 = .ok (.iconst 2, 1) := by decide +kernel
theorem dX3_fillArcs_51 : decode cX3_fillArcs 51 = .ok (.istore 8, 2) := by decide +kernel
theorem dX3_fillArcs_53 : decode cX3_fillArcs 53 = .ok (.iload 8, 2) := by decide +kernel
theorem dX3_fillArcs_55 : decode cX3_fillArcs 55 = .ok (.iload_n 1, 1) := by decide +kernel
theorem dX3_fillArcs_56 : decode cX3_fillArcs 56 = .ok (.if_icmp .ge 72, 3) := by decide +kernel
theorem dX3_fillArcs_59 : decode cX3_fillArcs 59 = .ok (.iload 7, 2) := by decide +kernel
theorem dX3_fillArcs_61 : decode cX3_fillArcs 61 = .ok (.iconst 1, 1) := by decide +kernel
theorem dX3_fillArcs_62 : decode cX3_fillArcs 62 = .ok (.iadd, 1) := by decide +kernel
theorem dX3_fillArcs_63 : decode cX3_fillArcs 63 = .ok (.iload_n 1, 1) := by decide +kernel
theorem dX3_fillArcs_64 : decode cX3_fillArcs 64 = .ok (.if_icmp .ge 10, 3) := by decide +kernel
theorem dX3_fillArcs_67 : decode cX3_fillArcs 67 = .ok (.iload 7, 2) := by decide +kernel
theorem dX3_fillArcs_69 : decode cX3_fillArcs 69 = .ok (.iconst 1, 1) := by decide +kernel
theorem dX3_fillArcs_70 : decode cX3_fillArcs 70 = .ok (.iadd, 1) := by decide +kernel
theorem dX3_fillArcs_71 : decode cX3_fillArcs 71 = .ok (.goto 4, 3) := by decide +kernel
theorem dX3_fillArcs_74 : decode cX3_fillArcs 74 = .ok (.iconst 0, 1) := by decide +kernel
theorem dX3_fillArcs_75 : decode cX3_fillArcs 75 = .ok (.istore 7, 2) := by decide +kernel
theorem dX3_fillArcs_77 : decode cX3_fillArcs 77 = .ok (.aload_n 0, 1) := by decide +kernel
theorem dX3_fillArcs_78 : decode cX3_fillArcs 78 = .ok (.getfield 28, 3) := by decide +kernel
theorem dX3_fillArcs_81 : decode cX3_fillArcs 81 = .ok (.iload 6, 2) := by decide +kernel
theorem dX3_fillArcs_83 : decode cX3_fillArcs 83 = .ok (.iload 8, 2) := by decide +kernel
theorem dX3_fillArcs_85 : decode cX3_fillArcs 85 = .ok (.iadd, 1) := by decide +kernel
theorem dX3_fillArcs_86 : decode cX3_fillArcs 86 = .ok (.aload_n 0, 1) := by decide +kernel
theorem dX3_fillArcs_87 : decode cX3_fillArcs 87 = .ok (.getfield 19, 3) := by decide +kernel
theorem dX3_fillArcs_90 : decode cX3_fillArcs 90 = .ok (.iload 7, 2) := by decide +kernel
theorem dX3_fillArcs_92 : decode cX3_fillArcs 92 = .ok (.laload, 1) := by decide +kernel
theorem dX3_fillArcs_93 : decode cX3_fillArcs 93 = .ok (.aload_n 0, 1) := by decide +kernel
theorem dX3_fillArcs_94 : decode cX3_fillArcs 94 = .ok (.getfield 28, 3) := by decide +kernel
theorem dX3_fillArcs_97 : decode cX3_fillArcs 97 = .ok (.iload 6, 2) := by decide +kernel
theorem dX3_fillArcs_99 : decode cX3_fillArcs 99 = .ok (.iload 8, 2) := by decide +kernel
theorem dX3_fillArcs_101 : decode cX3_fillArcs 101 = .ok (.iadd, 1) := by decide +kernel
theorem dX3_fillArcs_102 : decode cX3_fillArcs 102 = .ok (.iconst 1, 1) := by decide +kernel
theorem dX3_fillArcs_103 : decode cX3_fillArcs 103 = .ok (.isub, 1) := by decide +kernel
theorem dX3_fillArcs_104 : decode cX3_fillArcs 104 = .ok (.laload, 1) := by decide +kernel
theorem dX3_fillArcs_105 : decode cX3_fillArcs 105 = .ok (.lmul, 1) := by decide +kernel
theorem dX3_fillArcs_106 : decode cX3_fillArcs 106 = .ok (.lload_n 3, 1) := by decide +kernel
theorem dX3_fillArcs_107 : decode cX3_fillArcs 107 = .ok (.aload_n 0, 1) := by decide +kernel
theorem dX3_fillArcs_108 : decode cX3_fillArcs 108 = .ok (.getfield 28, 3) := by decide +kernel
theorem dX3_fillArcs_111 : decode cX3_fillArcs 111 = .ok (.iload 6, 2) := by decide +kernel
theorem dX3_fillArcs_113 : decode cX3_fillArcs 113 = .ok (.iload 8, 2) := by decide +kernel
theorem dX3_fillArcs_115 : decode cX3_fillArcs 115 = .ok (.iadd, 1) := by decide +kernel
theorem dX3_fillArcs_116 : decode cX3_fillArcs 116 = .ok (.iconst 2, 1) := by decide +kernel
theorem dX3_fillArcs_117 : decode cX3_fillArcs 117 = .ok (.isub, 1) := by decide +kernel
theorem dX3_fillArcs_118 : decode cX3_fillArcs 118 = .ok (.laload, 1) := by decide +kernel
theorem dX3_fillArcs_119 : decode cX3_fillArcs 119 = .ok (.lmul, 1) := by decide +kernel
theorem dX3_fillArcs_120 : decode cX3_fillArcs 120 = .ok (.lsub, 1) := by decide +kernel
theorem dX3_fillArcs_121 : decode cX3_fillArcs 121 = .ok (.lastore, 1) := by decide +kernel
theorem dX3_fillArcs_122 : decode cX3_fillArcs 122 = .ok (.iinc 8 1, 3) := by decide +kernel
theorem dX3_fillArcs_125 : decode cX3_fillArcs 125 = .ok (.goto (-72), 3) := by decide +kernel
theorem dX3_fillArcs_128 : decode cX3_fillArcs 128 = .ok (.iinc 5 1, 3) := by decide +kernel
theorem dX3_fillArcs_131 : decode cX3_fillArcs 131 = .ok (.goto (-122), 3) := by decide +kernel
theorem dX3_fillArcs_134 : decode cX3_fillArcs 134 = .ok (.aload_n 0, 1) := by decide +kernel
theorem dX3_fillArcs_135 : decode cX3_fillArcs 135 = .ok (.getfield 25, 3) := by decide +kernel
theorem dX3_fillArcs_138 : decode cX3_fillArcs 138 = .ok (.iconst 0, 1) := by decide +kernel
theorem dX3_fillArcs_139 : decode cX3_fillArcs 139 = .ok (.lconst 1, 1) := by decide +kernel
theorem dX3_fillArcs_140 : decode cX3_fillArcs 140 = .ok (.lastore, 1) := by decide +kernel
theorem dX3_fillArcs_141 : decode cX3_fillArcs 141 = .ok (.iconst 1, 1) := by decide +kernel
theorem dX3_fillArcs_142 : decode cX3_fillArcs 142 = .ok (.istore 5, 2) := by decide +kernel
theorem dX3_fillArcs_144 : decode cX3_fillArcs 144 = .ok (.iload 5, 2) := by decide +kernel
theorem dX3_fillArcs_146 : decode cX3_fillArcs 146 = .ok (.iload_n 1, 1) := by decide +kernel
theorem dX3_fillArcs_147 : decode cX3_fillArcs 147 = .ok (.if_icmp .gt 28, 3) := by decide +kernel
theorem dX3_fillArcs_150 : decode cX3_fillArcs 150 = .ok (.aload_n 0, 1) := by decide +kernel
theorem dX3_fillArcs_151 : decode cX3_fillArcs 151 = .ok (.getfield 25, 3) := by decide +kernel
theorem dX3_fillArcs_154 : decode cX3_fillArcs 154 = .ok (.iload 5, 2) := by decide +kernel
theorem dX3_fillArcs_156 : decode cX3_fillArcs 156 = .ok (.aload_n 0, 1) := by decide +kernel
theorem dX3_fillArcs_157 : decode cX3_fillArcs 157 = .ok (.getfield 25, 3) := by decide +kernel
theorem dX3_fillArcs_160 : decode cX3_fillArcs 160 = .ok (.iload 5, 2) := by decide +kernel
theorem dX3_fillArcs_162 : decode cX3_fillArcs 162 = .ok (.iconst 1, 1) := by decide +kernel
theorem dX3_fillArcs_163 : decode cX3_fillArcs 163 = .ok (.isub, 1) := by decide +kernel
theorem dX3_fillArcs_164 : decode cX3_fillArcs 164 = .ok (.laload, 1) := by decide +kernel
theorem dX3_fillArcs_165 : decode cX3_fillArcs 165 = .ok (.iload_n 2, 1) := by decide +kernel
theorem dX3_fillArcs_166 : decode cX3_fillArcs 166 = .ok (.i2l, 1) := by decide +kernel
theorem dX3_fillArcs_167 : decode cX3_fillArcs 167 = .ok (.lmul, 1) := by decide +kernel
theorem dX3_fillArcs_168 : decode cX3_fillArcs 168 = .ok (.lastore, 1) := by decide +kernel
theorem dX3_fillArcs_169 : decode cX3_fillArcs 169 = .ok (.iinc 5 1, 3) := by decide +kernel
theorem dX3_fillArcs_172 : decode cX3_fillArcs 172 = .ok (.goto (-28), 3) := by decide +kernel
theorem dX3_fillArcs_175 : decode cX3_fillArcs 175 = .ok (.return_, 1) := by decide +kernel
theorem dX3_solve_0 : decode cX3_solve 0 = .ok (.bipush 6, 2) := by decide +kernel
theorem dX3_solve_2 : decode cX3_solve 2 = .ok (.istore_n 3, 1) := by decide +kernel
theorem dX3_solve_3 : decode cX3_solve 3 = .ok (.aload_n 0, 1) := by decide +kernel
theorem dX3_solve_4 : decode cX3_solve 4 = .ok (.aload_n 0, 1) := by decide +kernel
theorem dX3_solve_5 : decode cX3_solve 5 = .ok (.getfield 19, 3) := by decide +kernel
theorem dX3_solve_8 : decode cX3_solve 8 = .ok (.iconst 0, 1) := by decide +kernel
theorem dX3_solve_9 : decode cX3_solve 9 = .ok (.laload, 1) := by decide +kernel
theorem dX3_solve_10 : decode cX3_solve 10 = .ok (.aload_n 0, 1) := by decide +kernel
theorem dX3_solve_11 : decode cX3_solve 11 = .ok (.getfield 28, 3) := by decide +kernel
theorem dX3_solve_14 : decode cX3_solve 14 = .ok (.iload_n 3, 1) := by decide +kernel
theorem dX3_solve_15 : decode cX3_solve 15 = .ok (.iload_n 1, 1) := by decide +kernel
theorem dX3_solve_16 : decode cX3_solve 16 = .ok (.iadd, 1) := by decide +kernel
theorem dX3_solve_17 : decode cX3_solve 17 = .ok (.iconst 1, 1) := by decide +kernel
theorem dX3_solve_18 : decode cX3_solve 18 = .ok (.isub, 1) := by decide +kernel
theorem dX3_solve_19 : decode cX3_solve 19 = .ok (.laload, 1) := by decide +kernel
theorem dX3_solve_20 : decode cX3_solve 20 = .ok (.lmul, 1) := by decide +kernel
theorem dX3_solve_21 : decode cX3_solve 21 = .ok (.ldc2_w 68, 3) := by decide +kernel
theorem dX3_solve_24 : decode cX3_solve 24 = .ok (.aload_n 0, 1) := by decide +kernel
theorem dX3_solve_25 : decode cX3_solve 25 = .ok (.getfield 25, 3) := by decide +kernel
theorem dX3_solve_28 : decode cX3_solve 28 = .ok (.iload_n 1, 1) := by decide +kernel
theorem dX3_solve_29 : decode cX3_solve 29 = .ok (.laload, 1) := by decide +kernel
theorem dX3_solve_30 : decode cX3_solve 30 = .ok (.lmul, 1) := by decide +kernel
theorem dX3_solve_31 : decode cX3_solve 31 = .ok (.lsub, 1) := by decide +kernel
theorem dX3_solve_32 : decode cX3_solve 32 = .ok (.iload_n 2, 1) := by decide +kernel
theorem dX3_solve_33 : decode cX3_solve 33 = .ok (.i2l, 1) := by decide +kernel
theorem dX3_solve_34 : decode cX3_solve 34 = .ok (.iload_n 2, 1) := by decide +kernel
theorem dX3_solve_35 : decode cX3_solve 35 = .ok (.i2l, 1) := by decide +kernel
theorem dX3_solve_36 : decode cX3_solve 36 = .ok (.lmul, 1) := by decide +kernel
theorem dX3_solve_37 : decode cX3_solve 37 = .ok (.aload_n 0, 1) := by decide +kernel
theorem dX3_solve_38 : decode cX3_solve 38 = .ok (.getfield 28, 3) := by decide +kernel
theorem dX3_solve_41 : decode cX3_solve 41 = .ok (.iload_n 3, 1) := by decide +kernel
theorem dX3_solve_42 : decode cX3_solve 42 = .ok (.iload_n 1, 1) := by decide +kernel
theorem dX3_solve_43 : decode cX3_solve 43 = .ok (.iadd, 1) := by decide +kernel
theorem dX3_solve_44 : decode cX3_solve 44 = .ok (.iconst 2, 1) := by decide +kernel
theorem dX3_solve_45 : decode cX3_solve 45 = .ok (.isub, 1) := by decide +kernel
theorem dX3_solve_46 : decode cX3_solve 46 = .ok (.laload, 1) := by decide +kernel
theorem dX3_solve_47 : decode cX3_solve 47 = .ok (.aload_n 0, 1) := by decide +kernel
theorem dX3_solve_48 : decode cX3_solve 48 = .ok (.getfield 28, 3) := by decide +kernel
theorem dX3_solve_51 : decode cX3_solve 51 = .ok (.bipush 12, 2) := by decide +kernel
theorem dX3_solve_53 : decode cX3_solve 53 = .ok (.iload_n 1, 1) := by decide +kernel
theorem dX3_solve_54 : decode cX3_solve 54 = .ok (.iadd, 1) := by decide +kernel
theorem dX3_solve_55 : decode cX3_solve 55 = .ok (.iconst 2, 1) := by decide +kernel
theorem dX3_solve_56 : decode cX3_solve 56 = .ok (.isub, 1) := by decide +kernel
theorem dX3_solve_57 : decode cX3_solve 57 = .ok (.laload, 1) := by decide +kernel
theorem dX3_solve_58 : decode cX3_solve 58 = .ok (.ladd, 1) := by decide +kernel
theorem dX3_solve_59 : decode cX3_solve 59 = .ok (.lmul, 1) := by decide +kernel
theorem dX3_solve_60 : decode cX3_solve 60 = .ok (.lsub, 1) := by decide +kernel
theorem dX3_solve_61 : decode cX3_solve 61 = .ok (.putfield 15, 3) := by decide +kernel
theorem dX3_solve_64 : decode cX3_solve 64 = .ok (.iconst 0, 1) := by decide +kernel
theorem dX3_solve_65 : decode cX3_solve 65 = .ok (.istore 4, 2) := by decide +kernel
theorem dX3_solve_67 : decode cX3_solve 67 = .ok (.iload 4, 2) := by decide +kernel
theorem dX3_solve_69 : decode cX3_solve 69 = .ok (.iload_n 1, 1) := by decide +kernel
theorem dX3_solve_70 : decode cX3_solve 70 = .ok (.if_icmp .ge 184, 3) := by decide +kernel
theorem dX3_solve_73 : decode cX3_solve 73 = .ok (.bipush 6, 2) := by decide +kernel
theorem dX3_solve_75 : decode cX3_solve 75 = .ok (.iload 4, 2) := by decide +kernel
theorem dX3_solve_77 : decode cX3_solve 77 = .ok (.iconst 1, 1) := by decide +kernel
theorem dX3_solve_78 : decode cX3_solve 78 = .ok (.iadd, 1) := by decide +kernel
theorem dX3_solve_79 : decode cX3_solve 79 = .ok (.iload_n 1, 1) := by decide +kernel
theorem dX3_solve_80 : decode cX3_solve 80 = .ok (.if_icmp .ge 10, 3) := by decide +kernel
theorem dX3_solve_83 : decode cX3_solve 83 = .ok (.iload 4, 2) := by decide +kernel
theorem dX3_solve_85 : decode cX3_solve 85 = .ok (.iconst 1, 1) := by decide +kernel
theorem dX3_solve_86 : decode cX3_solve 86 = .ok (.iadd, 1) := by decide +kernel
theorem dX3_solve_87 : decode cX3_solve 87 = .ok (.goto 4, 3) := by decide +kernel
theorem dX3_solve_90 : decode cX3_solve 90 = .ok (.iconst 0, 1) := by decide +kernel
theorem dX3_solve_91 : decode cX3_solve 91 = .ok (.imul, 1) := by decide +kernel
theorem dX3_solve_92 : decode cX3_solve 92 = .ok (.istore 5, 2) := by decide +kernel
theorem dX3_solve_94 : decode cX3_solve 94 = .ok (.aload_n 0, 1) := by decide +kernel
theorem dX3_solve_95 : decode cX3_solve 95 = .ok (.getfield 22, 3) := by decide +kernel
theorem dX3_solve_98 : decode cX3_solve 98 = .ok (.iload 4, 2) := by decide +kernel
theorem dX3_solve_100 : decode cX3_solve 100 = .ok (.laload, 1) := by decide +kernel
theorem dX3_solve_101 : decode cX3_solve 101 = .ok (.aload_n 0, 1) := by decide +kernel
theorem dX3_solve_102 : decode cX3_solve 102 = .ok (.getfield 28, 3) := by decide +kernel
theorem dX3_solve_105 : decode cX3_solve 105 = .ok (.iload 5, 2) := by decide +kernel
theorem dX3_solve_107 : decode cX3_solve 107 = .ok (.iload_n 1, 1) := by decide +kernel
theorem dX3_solve_108 : decode cX3_solve 108 = .ok (.iadd, 1) := by decide +kernel
theorem dX3_solve_109 : decode cX3_solve 109 = .ok (.iconst 1, 1) := by decide +kernel
theorem dX3_solve_110 : decode cX3_solve 110 = .ok (.isub, 1) := by decide +kernel
theorem dX3_solve_111 : decode cX3_solve 111 = .ok (.laload, 1) := by decide +kernel
theorem dX3_solve_112 : decode cX3_solve 112 = .ok (.lmul, 1) := by decide +kernel
theorem dX3_solve_113 : decode cX3_solve 113 = .ok (.lstore 6, 2) := by decide +kernel
theorem dX3_solve_115 : decode cX3_solve 115 = .ok (.iload 4, 2) := by decide +kernel
theorem dX3_solve_117 : decode cX3_solve 117 = .ok (.istore 8, 2) := by decide +kernel
theorem dX3_solve_119 : decode cX3_solve 119 = .ok (.iconst 1, 1) := by decide +kernel
theorem dX3_solve_120 : decode cX3_solve 120 = .ok (.istore 9, 2) := by decide +kernel
theorem dX3_solve_122 : decode cX3_solve 122 = .ok (.iload 9, 2) := by decide +kernel
theorem dX3_solve_124 : decode cX3_solve 124 = .ok (.iload_n 1, 1) := by decide +kernel
theorem dX3_solve_125 : decode cX3_solve 125 = .ok (.if_icmp .ge 114, 3) := by decide +kernel
theorem dX3_solve_128 : decode cX3_solve 128 = .ok (.iload 8, 2) := by decide +kernel
theorem dX3_solve_130 : decode cX3_solve 130 = .ok (.iconst 1, 1) := by decide +kernel
theorem dX3_solve_131 : decode cX3_solve 131 = .ok (.iadd, 1) := by decide +kernel
theorem dX3_solve_132 : decode cX3_solve 132 = .ok (.iload_n 1, 1) := by decide +kernel
theorem dX3_solve_133 : decode cX3_solve 133 = .ok (.if_icmp .ge 10, 3) := by decide +kernel
theorem dX3_solve_136 : decode cX3_solve 136 = .ok (.iload 8, 2) := by decide +kernel
theorem dX3_solve_138 : decode cX3_solve 138 = .ok (.iconst 1, 1) := by decide +kernel
theorem dX3_solve_139 : decode cX3_solve 139 = .ok (.iadd, 1) := by decide +kernel
theorem dX3_solve_140 : decode cX3_solve 140 = .ok (.goto 4, 3) := by decide +kernel
theorem dX3_solve_143 : decode cX3_solve 143 = .ok (.iconst 0, 1) := by decide +kernel
theorem dX3_solve_144 : decode cX3_solve 144 = .ok (.istore 8, 2) := by decide +kernel
theorem dX3_solve_146 : decode cX3_solve 146 = .ok (.bipush 6, 2) := by decide +kernel
theorem dX3_solve_148 : decode cX3_solve 148 = .ok (.iload 8, 2) := by decide +kernel
theorem dX3_solve_150 : decode cX3_solve 150 = .ok (.iconst 1, 1) := by decide +kernel
theorem dX3_solve_151 : decode cX3_solve 151 = .ok (.iadd, 1) := by decide +kernel
theorem dX3_solve_152 : decode cX3_solve 152 = .ok (.iload_n 1, 1) := by decide +kernel
theorem dX3_solve_153 : decode cX3_solve 153 = .ok (.if_icmp .ge 10, 3) := by decide +kernel
theorem dX3_solve_156 : decode cX3_solve 156 = .ok (.iload 8, 2) := by decide +kernel
theorem dX3_solve_158 : decode cX3_solve 158 = .ok (.iconst 1, 1) := by decide +kernel
theorem dX3_solve_159 : decode cX3_solve 159 = .ok (.iadd, 1) := by decide +kernel
theorem dX3_solve_160 : decode cX3_solve 160 = .ok (.goto 4, 3) := by decide +kernel
theorem dX3_solve_163 : decode cX3_solve 163 = .ok (.iconst 0, 1) := by decide +kernel
theorem dX3_solve_164 : decode cX3_solve 164 = .ok (.imul, 1) := by decide +kernel
theorem dX3_solve_165 : decode cX3_solve 165 = .ok (.istore 10, 2) := by decide +kernel
theorem dX3_solve_167 : decode cX3_solve 167 = .ok (.aload_n 0, 1) := by decide +kernel
theorem dX3_solve_168 : decode cX3_solve 168 = .ok (.getfield 25, 3) := by decide +kernel
theorem dX3_solve_171 : decode cX3_solve 171 = .ok (.iload 9, 2) := by decide +kernel
theorem dX3_solve_173 : decode cX3_solve 173 = .ok (.laload, 1) := by decide +kernel
theorem dX3_solve_174 : decode cX3_solve 174 = .ok (.aload_n 0, 1) := by decide +kernel
theorem dX3_solve_175 : decode cX3_solve 175 = .ok (.getfield 28, 3) := by decide +kernel
theorem dX3_solve_178 : decode cX3_solve 178 = .ok (.iload 10, 2) := by decide +kernel
theorem dX3_solve_180 : decode cX3_solve 180 = .ok (.iload_n 1, 1) := by decide +kernel
theorem dX3_solve_181 : decode cX3_solve 181 = .ok (.iadd, 1) := by decide +kernel
theorem dX3_solve_182 : decode cX3_solve 182 = .ok (.iconst 1, 1) := by decide +kernel
theorem dX3_solve_183 : decode cX3_solve 183 = .ok (.isub, 1) := by decide +kernel
theorem dX3_solve_184 : decode cX3_solve 184 = .ok (.iload 9, 2) := by decide +kernel
theorem dX3_solve_186 : decode cX3_solve 186 = .ok (.isub, 1) := by decide +kernel
theorem dX3_solve_187 : decode cX3_solve 187 = .ok (.laload, 1) := by decide +kernel
theorem dX3_solve_188 : decode cX3_solve 188 = .ok (.lmul, 1) := by decide +kernel
theorem dX3_solve_189 : decode cX3_solve 189 = .ok (.lstore 11, 2) := by decide +kernel
theorem dX3_solve_191 : decode cX3_solve 191 = .ok (.aload_n 0, 1) := by decide +kernel
theorem dX3_solve_192 : decode cX3_solve 192 = .ok (.getfield 25, 3) := by decide +kernel
theorem dX3_solve_195 : decode cX3_solve 195 = .ok (.iload_n 1, 1) := by decide +kernel
theorem dX3_solve_196 : decode cX3_solve 196 = .ok (.iload 9, 2) := by decide +kernel
theorem dX3_solve_198 : decode cX3_solve 198 = .ok (.isub, 1) := by decide +kernel
theorem dX3_solve_199 : decode cX3_solve 199 = .ok (.laload, 1) := by decide +kernel
theorem dX3_solve_200 : decode cX3_solve 200 = .ok (.aload_n 0, 1) := by decide +kernel
theorem dX3_solve_201 : decode cX3_solve 201 = .ok (.getfield 28, 3) := by decide +kernel
theorem dX3_solve_204 : decode cX3_solve 204 = .ok (.iload 5, 2) := by decide +kernel
theorem dX3_solve_206 : decode cX3_solve 206 = .ok (.iload 9, 2) := by decide +kernel
theorem dX3_solve_208 : decode cX3_solve 208 = .ok (.iadd, 1) := by decide +kernel
theorem dX3_solve_209 : decode cX3_solve 209 = .ok (.iconst 1, 1) := by decide +kernel
theorem dX3_solve_210 : decode cX3_solve 210 = .ok (.isub, 1) := by decide +kernel
theorem dX3_solve_211 : decode cX3_solve 211 = .ok (.laload, 1) := by decide +kernel
theorem dX3_solve_212 : decode cX3_solve 212 = .ok (.lmul, 1) := by decide +kernel
theorem dX3_solve_213 : decode cX3_solve 213 = .ok (.lstore 13, 2) := by decide +kernel
theorem dX3_solve_215 : decode cX3_solve 215 = .ok (.lload 6, 2) := by decide +kernel
theorem dX3_solve_217 : decode cX3_solve 217 = .ok (.aload_n 0, 1) := by decide +kernel
theorem dX3_solve_218 : decode cX3_solve 218 = .ok (.getfield 22, 3) := by decide +kernel
theorem dX3_solve_221 : decode cX3_solve 221 = .ok (.iload 8, 2) := by decide +kernel
theorem dX3_solve_223 : decode cX3_solve 223 = .ok (.laload, 1) := by decide +kernel
theorem dX3_solve_224 : decode cX3_solve 224 = .ok (.lload 11, 2) := by decide +kernel
theorem dX3_solve_226 : decode cX3_solve 226 = .ok (.lload 13, 2) := by decide +kernel
theorem dX3_solve_228 : decode cX3_solve 228 = .ok (.ladd, 1) := by decide +kernel
theorem dX3_solve_229 : decode cX3_solve 229 = .ok (.lmul, 1) := by decide +kernel
theorem dX3_solve_230 : decode cX3_solve 230 = .ok (.ladd, 1) := by decide +kernel
theorem dX3_solve_231 : decode cX3_solve 231 = .ok (.lstore 6, 2) := by decide +kernel
theorem dX3_solve_233 : decode cX3_solve 233 = .ok (.iinc 9 1, 3) := by decide +kernel
theorem dX3_solve_236 : decode cX3_solve 236 = .ok (.goto (-114), 3) := by decide +kernel
theorem dX3_solve_239 : decode cX3_solve 239 = .ok (.aload_n 0, 1) := by decide +kernel
theorem dX3_solve_240 : decode cX3_solve 240 = .ok (.getfield 9, 3) := by decide +kernel
theorem dX3_solve_243 : decode cX3_solve 243 = .ok (.iload 4, 2) := by decide +kernel
theorem dX3_solve_245 : decode cX3_solve 245 = .ok (.lload 6, 2) := by decide +kernel
theorem dX3_solve_247 : decode cX3_solve 247 = .ok (.lastore, 1) := by decide +kernel
theorem dX3_solve_248 : decode cX3_solve 248 = .ok (.iinc 4 1, 3) := by decide +kernel
theorem dX3_solve_251 : decode cX3_solve 251 = .ok (.goto (-184), 3) := by decide +kernel
theorem dX3_solve_254 : decode cX3_solve 254 = .ok (.return_, 1) := by decide +kernel
theorem dX3_liftedSet_0 : decode cX3_liftedSet 0 = .ok (.iconst 0, 1) := by decide +kernel
theorem dX3_liftedSet_1 : decode cX3_liftedSet 1 = .ok (.istore_n 2, 1) := by decide +kernel
theorem dX3_liftedSet_2 : decode cX3_liftedSet 2 = .ok (.iconst 0, 1) := by decide +kernel
theorem dX3_liftedSet_3 : decode cX3_liftedSet 3 = .ok (.istore_n 3, 1) := by decide +kernel
theorem dX3_liftedSet_4 : decode cX3_liftedSet 4 = .ok (.iload_n 3, 1) := by decide +kernel
theorem dX3_liftedSet_5 : decode cX3_liftedSet 5 = .ok (.aload_n 1, 1) := by decide +kernel
theorem dX3_liftedSet_6 : decode cX3_liftedSet 6 = .ok (.getfield 48, 3) := by decide +kernel
theorem dX3_liftedSet_9 : decode cX3_liftedSet 9 = .ok (.if_icmp .ge 26, 3) := by decide +kernel
theorem dX3_liftedSet_12 : decode cX3_liftedSet 12 = .ok (.aload_n 0, 1) := by decide +kernel
theorem dX3_liftedSet_13 : decode cX3_liftedSet 13 = .ok (.getfield 9, 3) := by decide +kernel
theorem dX3_liftedSet_16 : decode cX3_liftedSet 16 = .ok (.iload_n 3, 1) := by decide +kernel
theorem dX3_liftedSet_17 : decode cX3_liftedSet 17 = .ok (.laload, 1) := by decide +kernel
theorem dX3_liftedSet_18 : decode cX3_liftedSet 18 = .ok (.lconst 0, 1) := by decide +kernel
theorem dX3_liftedSet_19 : decode cX3_liftedSet 19 = .ok (.lcmp, 1) := by decide +kernel
theorem dX3_liftedSet_20 : decode cX3_liftedSet 20 = .ok (.ifCond .le 9, 3) := by decide +kernel
theorem dX3_liftedSet_23 : decode cX3_liftedSet 23 = .ok (.iload_n 2, 1) := by decide +kernel
theorem dX3_liftedSet_24 : decode cX3_liftedSet 24 = .ok (.iconst 1, 1) := by decide +kernel
theorem dX3_liftedSet_25 : decode cX3_liftedSet 25 = .ok (.iload_n 3, 1) := by decide +kernel
theorem dX3_liftedSet_26 : decode cX3_liftedSet 26 = .ok (.ishl, 1) := by decide +kernel
theorem dX3_liftedSet_27 : decode cX3_liftedSet 27 = .ok (.ior, 1) := by decide +kernel
theorem dX3_liftedSet_28 : decode cX3_liftedSet 28 = .ok (.istore_n 2, 1) := by decide +kernel
theorem dX3_liftedSet_29 : decode cX3_liftedSet 29 = .ok (.iinc 3 1, 3) := by decide +kernel
theorem dX3_liftedSet_32 : decode cX3_liftedSet 32 = .ok (.goto (-28), 3) := by decide +kernel
theorem dX3_liftedSet_35 : decode cX3_liftedSet 35 = .ok (.iload_n 2, 1) := by decide +kernel
theorem dX3_liftedSet_36 : decode cX3_liftedSet 36 = .ok (.ireturn, 1) := by decide +kernel
theorem dX3_aboveTurnsSet_0 : decode cX3_aboveTurnsSet 0 = .ok (.iconst 0, 1) := by decide +kernel
theorem dX3_aboveTurnsSet_1 : decode cX3_aboveTurnsSet 1 = .ok (.istore_n 2, 1) := by decide +kernel
theorem dX3_aboveTurnsSet_2 : decode cX3_aboveTurnsSet 2 = .ok (.iconst 0, 1) := by decide +kernel
theorem dX3_aboveTurnsSet_3 : decode cX3_aboveTurnsSet 3 = .ok (.istore_n 3, 1) := by decide +kernel
theorem dX3_aboveTurnsSet_4 : decode cX3_aboveTurnsSet 4 = .ok (.iload_n 3, 1) := by decide +kernel
theorem dX3_aboveTurnsSet_5 : decode cX3_aboveTurnsSet 5 = .ok (.aload_n 1, 1) := by decide +kernel
theorem dX3_aboveTurnsSet_6 : decode cX3_aboveTurnsSet 6 = .ok (.getfield 48, 3) := by decide +kernel
theorem dX3_aboveTurnsSet_9 : decode cX3_aboveTurnsSet 9 = .ok (.if_icmp .ge 37, 3) := by decide +kernel
theorem dX3_aboveTurnsSet_12 : decode cX3_aboveTurnsSet 12 = .ok (.aload_n 0, 1) := by decide +kernel
theorem dX3_aboveTurnsSet_13 : decode cX3_aboveTurnsSet 13 = .ok (.getfield 9, 3) := by decide +kernel
theorem dX3_aboveTurnsSet_16 : decode cX3_aboveTurnsSet 16 = .ok (.iload_n 3, 1) := by decide +kernel
theorem dX3_aboveTurnsSet_17 : decode cX3_aboveTurnsSet 17 = .ok (.laload, 1) := by decide +kernel
theorem dX3_aboveTurnsSet_18 : decode cX3_aboveTurnsSet 18 = .ok (.aload_n 0, 1) := by decide +kernel
theorem dX3_aboveTurnsSet_19 : decode cX3_aboveTurnsSet 19 = .ok (.getfield 15, 3) := by decide +kernel
theorem dX3_aboveTurnsSet_22 : decode cX3_aboveTurnsSet 22 = .ok (.aload_n 1, 1) := by decide +kernel
theorem dX3_aboveTurnsSet_23 : decode cX3_aboveTurnsSet 23 = .ok (.getfield 74, 3) := by decide +kernel
theorem dX3_aboveTurnsSet_26 : decode cX3_aboveTurnsSet 26 = .ok (.iload_n 3, 1) := by decide +kernel
theorem dX3_aboveTurnsSet_27 : decode cX3_aboveTurnsSet 27 = .ok (.iaload, 1) := by decide +kernel
theorem dX3_aboveTurnsSet_28 : decode cX3_aboveTurnsSet 28 = .ok (.i2l, 1) := by decide +kernel
theorem dX3_aboveTurnsSet_29 : decode cX3_aboveTurnsSet 29 = .ok (.lmul, 1) := by decide +kernel
theorem dX3_aboveTurnsSet_30 : decode cX3_aboveTurnsSet 30 = .ok (.lcmp, 1) := by decide +kernel
theorem dX3_aboveTurnsSet_31 : decode cX3_aboveTurnsSet 31 = .ok (.ifCond .le 9, 3) := by decide +kernel
theorem dX3_aboveTurnsSet_34 : decode cX3_aboveTurnsSet 34 = .ok (.iload_n 2, 1) := by decide +kernel
theorem dX3_aboveTurnsSet_35 : decode cX3_aboveTurnsSet 35 = .ok (.iconst 1, 1) := by decide +kernel
theorem dX3_aboveTurnsSet_36 : decode cX3_aboveTurnsSet 36 = .ok (.iload_n 3, 1) := by decide +kernel
theorem dX3_aboveTurnsSet_37 : decode cX3_aboveTurnsSet 37 = .ok (.ishl, 1) := by decide +kernel
theorem dX3_aboveTurnsSet_38 : decode cX3_aboveTurnsSet 38 = .ok (.ior, 1) := by decide +kernel
theorem dX3_aboveTurnsSet_39 : decode cX3_aboveTurnsSet 39 = .ok (.istore_n 2, 1) := by decide +kernel
theorem dX3_aboveTurnsSet_40 : decode cX3_aboveTurnsSet 40 = .ok (.iinc 3 1, 3) := by decide +kernel
theorem dX3_aboveTurnsSet_43 : decode cX3_aboveTurnsSet 43 = .ok (.goto (-39), 3) := by decide +kernel
theorem dX3_aboveTurnsSet_46 : decode cX3_aboveTurnsSet 46 = .ok (.iload_n 2, 1) := by decide +kernel
theorem dX3_aboveTurnsSet_47 : decode cX3_aboveTurnsSet 47 = .ok (.ireturn, 1) := by decide +kernel
set_option maxRecDepth 20000 in
theorem ggX3_pullUpper_X2_isBroken : GoodIn wsX3_pullUpper wsX2_isBroken := goodIn_r _ [13, 14, 15, 16, 17, 18, 19, 20, 21, 22] (by decide +kernel) (by decide +kernel)
set_option maxRecDepth 20000 in
theorem gX3_pullUpper_X2_isBroken : GoodIn wsX3_pullUpper (wsV RX3 80 RX2 yX2_isBroken wsX2_isBroken) := goodIn_app (goodIn_of _ (by decide +kernel)) ggX3_pullUpper_X2_isBroken
theorem dX3_pullUpper_0 : decode cX3_pullUpper 0 = .ok (.aload_n 1, 1) := by decide +kernel
theorem dX3_pullUpper_1 : decode cX3_pullUpper 1 = .ok (.iload_n 2, 1) := by decide +kernel
theorem dX3_pullUpper_2 : decode cX3_pullUpper 2 = .ok (.invokevirtual 80, 3) := by decide +kernel
theorem dX3_pullUpper_5 : decode cX3_pullUpper 5 = .ok (.ifCond .eq 5, 3) := by decide +kernel
theorem dX3_pullUpper_8 : decode cX3_pullUpper 8 = .ok (.lconst 0, 1) := by decide +kernel
theorem dX3_pullUpper_9 : decode cX3_pullUpper 9 = .ok (.lreturn, 1) := by decide +kernel
theorem dX3_pullUpper_10 : decode cX3_pullUpper 10 = .ok (.aload_n 1, 1) := by decide +kernel
theorem dX3_pullUpper_11 : decode cX3_pullUpper 11 = .ok (.getfield 70, 3) := by decide +kernel
theorem dX3_pullUpper_14 : decode cX3_pullUpper 14 = .ok (.iload_n 2, 1) := by decide +kernel
theorem dX3_pullUpper_15 : decode cX3_pullUpper 15 = .ok (.iaload, 1) := by decide +kernel
theorem dX3_pullUpper_16 : decode cX3_pullUpper 16 = .ok (.i2l, 1) := by decide +kernel
theorem dX3_pullUpper_17 : decode cX3_pullUpper 17 = .ok (.lconst 0, 1) := by decide +kernel
theorem dX3_pullUpper_18 : decode cX3_pullUpper 18 = .ok (.aload_n 0, 1) := by decide +kernel
theorem dX3_pullUpper_19 : decode cX3_pullUpper 19 = .ok (.getfield 15, 3) := by decide +kernel
theorem dX3_pullUpper_22 : decode cX3_pullUpper 22 = .ok (.aload_n 1, 1) := by decide +kernel
theorem dX3_pullUpper_23 : decode cX3_pullUpper 23 = .ok (.getfield 74, 3) := by decide +kernel
theorem dX3_pullUpper_26 : decode cX3_pullUpper 26 = .ok (.iload_n 2, 1) := by decide +kernel
theorem dX3_pullUpper_27 : decode cX3_pullUpper 27 = .ok (.iaload, 1) := by decide +kernel
theorem dX3_pullUpper_28 : decode cX3_pullUpper 28 = .ok (.i2l, 1) := by decide +kernel
theorem dX3_pullUpper_29 : decode cX3_pullUpper 29 = .ok (.lmul, 1) := by decide +kernel
theorem dX3_pullUpper_30 : decode cX3_pullUpper 30 = .ok (.aload_n 0, 1) := by decide +kernel
theorem dX3_pullUpper_31 : decode cX3_pullUpper 31 = .ok (.getfield 9, 3) := by decide +kernel
theorem dX3_pullUpper_34 : decode cX3_pullUpper 34 = .ok (.iload_n 2, 1) := by decide +kernel
theorem dX3_pullUpper_35 : decode cX3_pullUpper 35 = .ok (.laload, 1) := by decide +kernel
theorem dX3_pullUpper_36 : decode cX3_pullUpper 36 = .ok (.lsub, 1) := by decide +kernel
theorem dX3_pullUpper_37 : decode cX3_pullUpper 37 = .ok (.invokestatic 84, 3) := by decide +kernel
theorem dX3_pullUpper_40 : decode cX3_pullUpper 40 = .ok (.lmul, 1) := by decide +kernel
theorem dX3_pullUpper_41 : decode cX3_pullUpper 41 = .ok (.lreturn, 1) := by decide +kernel
theorem dX3_pressUpper_0 : decode cX3_pressUpper 0 = .ok (.aload_n 1, 1) := by decide +kernel
theorem dX3_pressUpper_1 : decode cX3_pressUpper 1 = .ok (.getfield 77, 3) := by decide +kernel
theorem dX3_pressUpper_4 : decode cX3_pressUpper 4 = .ok (.iload_n 2, 1) := by decide +kernel
theorem dX3_pressUpper_5 : decode cX3_pressUpper 5 = .ok (.iaload, 1) := by decide +kernel
theorem dX3_pressUpper_6 : decode cX3_pressUpper 6 = .ok (.i2l, 1) := by decide +kernel
theorem dX3_pressUpper_7 : decode cX3_pressUpper 7 = .ok (.lconst 0, 1) := by decide +kernel
theorem dX3_pressUpper_8 : decode cX3_pressUpper 8 = .ok (.aload_n 0, 1) := by decide +kernel
theorem dX3_pressUpper_9 : decode cX3_pressUpper 9 = .ok (.getfield 9, 3) := by decide +kernel
theorem dX3_pressUpper_12 : decode cX3_pressUpper 12 = .ok (.iload_n 2, 1) := by decide +kernel
theorem dX3_pressUpper_13 : decode cX3_pressUpper 13 = .ok (.laload, 1) := by decide +kernel
theorem dX3_pressUpper_14 : decode cX3_pressUpper 14 = .ok (.invokestatic 84, 3) := by decide +kernel
theorem dX3_pressUpper_17 : decode cX3_pressUpper 17 = .ok (.lmul, 1) := by decide +kernel
theorem dX3_pressUpper_18 : decode cX3_pressUpper 18 = .ok (.lreturn, 1) := by decide +kernel
set_option maxRecDepth 20000 in
theorem ggX3_slackCount_X3_pullUpper : GoodIn wsX3_slackCount wsX3_pullUpper := goodIn_r _ [6, 7, 8, 9, 10, 11, 12, 13, 14, 15, 16, 17, 18, 19, 20, 24, 25, 26, 27, 28, 29, 30, 31, 32, 33, 34, 35, 36, 37] (by decide +kernel) (by decide +kernel)
set_option maxRecDepth 20000 in
theorem gX3_slackCount_X3_pullUpper : GoodIn wsX3_slackCount (wsV RX3 90 RX3 yX3_pullUpper wsX3_pullUpper) := goodIn_app (goodIn_of _ (by decide +kernel)) ggX3_slackCount_X3_pullUpper
set_option maxRecDepth 20000 in
theorem ggX3_slackCount_X7_asNumber : GoodIn wsX3_slackCount wsX7_asNumber := goodIn_r _ [23] (by decide +kernel) (by decide +kernel)
set_option maxRecDepth 20000 in
theorem gX3_slackCount_X7_asNumber_n94 : GoodIn wsX3_slackCount (wsX7_asNumber) := ggX3_slackCount_X7_asNumber
theorem dX3_slackCount_0 : decode cX3_slackCount 0 = .ok (.iconst 0, 1) := by decide +kernel
theorem dX3_slackCount_1 : decode cX3_slackCount 1 = .ok (.istore_n 2, 1) := by decide +kernel
theorem dX3_slackCount_2 : decode cX3_slackCount 2 = .ok (.iconst 0, 1) := by decide +kernel
theorem dX3_slackCount_3 : decode cX3_slackCount 3 = .ok (.istore_n 3, 1) := by decide +kernel
theorem dX3_slackCount_4 : decode cX3_slackCount 4 = .ok (.iload_n 3, 1) := by decide +kernel
theorem dX3_slackCount_5 : decode cX3_slackCount 5 = .ok (.aload_n 1, 1) := by decide +kernel
theorem dX3_slackCount_6 : decode cX3_slackCount 6 = .ok (.getfield 48, 3) := by decide +kernel
theorem dX3_slackCount_9 : decode cX3_slackCount 9 = .ok (.if_icmp .ge 31, 3) := by decide +kernel
theorem dX3_slackCount_12 : decode cX3_slackCount 12 = .ok (.iload_n 2, 1) := by decide +kernel
theorem dX3_slackCount_13 : decode cX3_slackCount 13 = .ok (.aload_n 0, 1) := by decide +kernel
theorem dX3_slackCount_14 : decode cX3_slackCount 14 = .ok (.aload_n 1, 1) := by decide +kernel
theorem dX3_slackCount_15 : decode cX3_slackCount 15 = .ok (.iload_n 3, 1) := by decide +kernel
theorem dX3_slackCount_16 : decode cX3_slackCount 16 = .ok (.invokevirtual 90, 3) := by decide +kernel
theorem dX3_slackCount_19 : decode cX3_slackCount 19 = .ok (.lconst 0, 1) := by decide +kernel
theorem dX3_slackCount_20 : decode cX3_slackCount 20 = .ok (.lcmp, 1) := by decide +kernel
theorem dX3_slackCount_21 : decode cX3_slackCount 21 = .ok (.ifCond .ne 7, 3) := by decide +kernel
theorem dX3_slackCount_24 : decode cX3_slackCount 24 = .ok (.iconst 1, 1) := by decide +kernel
theorem dX3_slackCount_25 : decode cX3_slackCount 25 = .ok (.goto 4, 3) := by decide +kernel
theorem dX3_slackCount_28 : decode cX3_slackCount 28 = .ok (.iconst 0, 1) := by decide +kernel
theorem dX3_slackCount_29 : decode cX3_slackCount 29 = .ok (.invokestatic 94, 3) := by decide +kernel
theorem dX3_slackCount_32 : decode cX3_slackCount 32 = .ok (.iadd, 1) := by decide +kernel
theorem dX3_slackCount_33 : decode cX3_slackCount 33 = .ok (.istore_n 2, 1) := by decide +kernel
theorem dX3_slackCount_34 : decode cX3_slackCount 34 = .ok (.iinc 3 1, 3) := by decide +kernel
theorem dX3_slackCount_37 : decode cX3_slackCount 37 = .ok (.goto (-33), 3) := by decide +kernel
theorem dX3_slackCount_40 : decode cX3_slackCount 40 = .ok (.iload_n 2, 1) := by decide +kernel
theorem dX3_slackCount_41 : decode cX3_slackCount 41 = .ok (.ireturn, 1) := by decide +kernel
set_option maxRecDepth 20000 in
theorem ggX3_openCount_X3_pressUpper : GoodIn wsX3_openCount wsX3_pressUpper := goodIn_r _ [6, 7, 8, 9, 10, 11, 12, 16, 17, 18, 19, 20, 21, 22, 23, 24, 25, 26, 27, 28, 29] (by decide +kernel) (by decide +kernel)
set_option maxRecDepth 20000 in
theorem gX3_openCount_X3_pressUpper : GoodIn wsX3_openCount (wsV RX3 98 RX3 yX3_pressUpper wsX3_pressUpper) := goodIn_app (goodIn_of _ (by decide +kernel)) ggX3_openCount_X3_pressUpper
set_option maxRecDepth 20000 in
theorem ggX3_openCount_X7_asNumber : GoodIn wsX3_openCount wsX7_asNumber := goodIn_r _ [15] (by decide +kernel) (by decide +kernel)
set_option maxRecDepth 20000 in
theorem gX3_openCount_X7_asNumber_n94 : GoodIn wsX3_openCount (wsX7_asNumber) := ggX3_openCount_X7_asNumber
theorem dX3_openCount_0 : decode cX3_openCount 0 = .ok (.iconst 0, 1) := by decide +kernel
theorem dX3_openCount_1 : decode cX3_openCount 1 = .ok (.istore_n 2, 1) := by decide +kernel
theorem dX3_openCount_2 : decode cX3_openCount 2 = .ok (.iconst 0, 1) := by decide +kernel
theorem dX3_openCount_3 : decode cX3_openCount 3 = .ok (.istore_n 3, 1) := by decide +kernel
theorem dX3_openCount_4 : decode cX3_openCount 4 = .ok (.iload_n 3, 1) := by decide +kernel
theorem dX3_openCount_5 : decode cX3_openCount 5 = .ok (.aload_n 1, 1) := by decide +kernel
theorem dX3_openCount_6 : decode cX3_openCount 6 = .ok (.getfield 48, 3) := by decide +kernel
theorem dX3_openCount_9 : decode cX3_openCount 9 = .ok (.if_icmp .ge 31, 3) := by decide +kernel
theorem dX3_openCount_12 : decode cX3_openCount 12 = .ok (.iload_n 2, 1) := by decide +kernel
theorem dX3_openCount_13 : decode cX3_openCount 13 = .ok (.aload_n 0, 1) := by decide +kernel
theorem dX3_openCount_14 : decode cX3_openCount 14 = .ok (.aload_n 1, 1) := by decide +kernel
theorem dX3_openCount_15 : decode cX3_openCount 15 = .ok (.iload_n 3, 1) := by decide +kernel
theorem dX3_openCount_16 : decode cX3_openCount 16 = .ok (.invokevirtual 98, 3) := by decide +kernel
theorem dX3_openCount_19 : decode cX3_openCount 19 = .ok (.lconst 0, 1) := by decide +kernel
theorem dX3_openCount_20 : decode cX3_openCount 20 = .ok (.lcmp, 1) := by decide +kernel
theorem dX3_openCount_21 : decode cX3_openCount 21 = .ok (.ifCond .ne 7, 3) := by decide +kernel
theorem dX3_openCount_24 : decode cX3_openCount 24 = .ok (.iconst 1, 1) := by decide +kernel
theorem dX3_openCount_25 : decode cX3_openCount 25 = .ok (.goto 4, 3) := by decide +kernel
theorem dX3_openCount_28 : decode cX3_openCount 28 = .ok (.iconst 0, 1) := by decide +kernel
theorem dX3_openCount_29 : decode cX3_openCount 29 = .ok (.invokestatic 94, 3) := by decide +kernel
theorem dX3_openCount_32 : decode cX3_openCount 32 = .ok (.iadd, 1) := by decide +kernel
theorem dX3_openCount_33 : decode cX3_openCount 33 = .ok (.istore_n 2, 1) := by decide +kernel
theorem dX3_openCount_34 : decode cX3_openCount 34 = .ok (.iinc 3 1, 3) := by decide +kernel
theorem dX3_openCount_37 : decode cX3_openCount 37 = .ok (.goto (-33), 3) := by decide +kernel
theorem dX3_openCount_40 : decode cX3_openCount 40 = .ok (.iload_n 2, 1) := by decide +kernel
theorem dX3_openCount_41 : decode cX3_openCount 41 = .ok (.ireturn, 1) := by decide +kernel
theorem dX4_init_0 : decode cX4_init 0 = .ok (.aload_n 0, 1) := by decide +kernel
theorem dX4_init_1 : decode cX4_init 1 = .ok (.invokespecial 3, 3) := by decide +kernel
theorem dX4_init_4 : decode cX4_init 4 = .ok (.aload_n 0, 1) := by decide +kernel
theorem dX4_init_5 : decode cX4_init 5 = .ok (.iconst 3, 1) := by decide +kernel
theorem dX4_init_6 : decode cX4_init 6 = .ok (.newarray .int, 2) := by decide +kernel
theorem dX4_init_8 : decode cX4_init 8 = .ok (.dup, 1) := by decide +kernel
theorem dX4_init_9 : decode cX4_init 9 = .ok (.iconst 0, 1) := by decide +kernel
theorem dX4_init_10 : decode cX4_init 10 = .ok (.iconst 1, 1) := by decide +kernel
theorem dX4_init_11 : decode cX4_init 11 = .ok (.iastore, 1) := by decide +kernel
theorem dX4_init_12 : decode cX4_init 12 = .ok (.dup, 1) := by decide +kernel
theorem dX4_init_13 : decode cX4_init 13 = .ok (.iconst 1, 1) := by decide +kernel
theorem dX4_init_14 : decode cX4_init 14 = .ok (.iconst 2, 1) := by decide +kernel
theorem dX4_init_15 : decode cX4_init 15 = .ok (.iastore, 1) := by decide +kernel
theorem dX4_init_16 : decode cX4_init 16 = .ok (.dup, 1) := by decide +kernel
theorem dX4_init_17 : decode cX4_init 17 = .ok (.iconst 2, 1) := by decide +kernel
theorem dX4_init_18 : decode cX4_init 18 = .ok (.iconst 1, 1) := by decide +kernel
theorem dX4_init_19 : decode cX4_init 19 = .ok (.iastore, 1) := by decide +kernel
theorem dX4_init_20 : decode cX4_init 20 = .ok (.putfield 9, 3) := by decide +kernel
theorem dX4_init_23 : decode cX4_init 23 = .ok (.aload_n 0, 1) := by decide +kernel
theorem dX4_init_24 : decode cX4_init 24 = .ok (.bipush 6, 2) := by decide +kernel
theorem dX4_init_26 : decode cX4_init 26 = .ok (.newarray .int, 2) := by decide +kernel
theorem dX4_init_28 : decode cX4_init 28 = .ok (.putfield 15, 3) := by decide +kernel
theorem dX4_init_31 : decode cX4_init 31 = .ok (.return_, 1) := by decide +kernel
set_option maxRecDepth 20000 in
theorem ggX4_begin_X4_weigh : GoodIn wsX4_begin wsX4_weigh := goodIn_r _ [5, 6, 7, 8] (by decide +kernel) (by decide +kernel)
set_option maxRecDepth 20000 in
theorem gX4_begin_X4_weigh : GoodIn wsX4_begin (wsV RX4 18 RX4 yX4_weigh wsX4_weigh) := goodIn_app (goodIn_of _ (by decide +kernel)) ggX4_begin_X4_weigh
theorem dX4_begin_0 : decode cX4_begin 0 = .ok (.aload_n 0, 1) := by decide +kernel
theorem dX4_begin_1 : decode cX4_begin 1 = .ok (.iconst 1, 1) := by decide +kernel
theorem dX4_begin_2 : decode cX4_begin 2 = .ok (.iconst 2, 1) := by decide +kernel
theorem dX4_begin_3 : decode cX4_begin 3 = .ok (.iconst 1, 1) := by decide +kernel
theorem dX4_begin_4 : decode cX4_begin 4 = .ok (.invokevirtual 18, 3) := by decide +kernel
theorem dX4_begin_7 : decode cX4_begin 7 = .ok (.return_, 1) := by decide +kernel
theorem dX4_weigh_0 : decode cX4_weigh 0 = .ok (.aload_n 0, 1) := by decide +kernel
theorem dX4_weigh_1 : decode cX4_weigh 1 = .ok (.getfield 9, 3) := by decide +kernel
theorem dX4_weigh_4 : decode cX4_weigh 4 = .ok (.iconst 0, 1) := by decide +kernel
theorem dX4_weigh_5 : decode cX4_weigh 5 = .ok (.iload_n 1, 1) := by decide +kernel
theorem dX4_weigh_6 : decode cX4_weigh 6 = .ok (.iastore, 1) := by decide +kernel
