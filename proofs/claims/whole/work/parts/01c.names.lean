theorem dX3_pullUpper_17 : decode cX3_pullUpper 17 = .ok (.lconst 0, 1) := by decide +kernel
theorem dX3_pullUpper_18 : decode cX3_pullUpper 18 = .ok (.aload_n 0, 1) := by decide +kernel
theorem dX3_pullUpper_19 : decode cX3_pullUpper 19 = .ok (.getfield 15, 3) := by decide +kernel
theorem dX3_pullUpper_22 : decode cX3_pullUpper 22 = .ok (.aload_n 1, 1) := by decide +kernel
theorem dX3_pullUpper_23 : decode cX3_pullUpper 23 = .ok (.getfield 74, 3) := by decide +kernel
theorem dX3_pullUpper_26 : decode cX3_pullUpper 26 = .ok (.iload_n 2, 1) := by decide +kernel
theorem dX3_pullUpper_27 : decode cX3_pullUpper 27 = .ok (.iaload, 1) := by decide +kernel
theorem dX3_pullUpper_28 : decode cX3_pullUpper 28 = .ok (.i2l, 1) := by decide +kernel
theorem dX3_pullUpper_29 : decode cX3_pullUpper 29 = .ok (.lmul, 1) := by decide +kernel
theorem dX3_pullUpper_30 : decode cX3_pullUpper 30 = .ok (.aload_n 0, 1) := by decide +kernel
theorem dX3_pullUpper_31 : decode cX3_pullUpper 31 = .ok (.getfield 9, 3) := by decide +kernel
theorem dX3_pullUpper_34 : decode cX3_pullUpper 34 = .ok (.iload_n 2, 1) := by decide +kernel
theorem dX3_pullUpper_35 : decode cX3_pullUpper 35 = .ok (.laload, 1) := by decide +kernel
theorem dX3_pullUpper_36 : decode cX3_pullUpper 36 = .ok (.lsub, 1) := by decide +kernel
theorem dX3_pullUpper_37 : decode cX3_pullUpper 37 = .ok (.invokestatic 84, 3) := by decide +kernel
theorem dX3_pullUpper_40 : decode cX3_pullUpper 40 = .ok (.lmul, 1) := by decide +kernel
theorem dX3_pullUpper_41 : decode cX3_pullUpper 41 = .ok (.lreturn, 1) := by decide +kernel
theorem dX3_pressUpper_0 : decode cX3_pressUpper 0 = .ok (.aload_n 1, 1) := by decide +kernel
theorem dX3_pressUpper_1 : decode cX3_pressUpper 1 = .ok (.getfield 77, 3) := by decide +kernel
theorem dX3_pressUpper_4 : decode cX3_pressUpper 4 = .ok (.iload_n 2, 1) := by decide +kernel
theorem dX3_pressUpper_5 : decode cX3_pressUpper 5 = .ok (.iaload, 1) := by decide +kernel
theorem dX3_pressUpper_6 : decode cX3_pressUpper 6 = .ok (.i2l, 1) := by decide +kernel
theorem dX3_pressUpper_7 : decode cX3_pressUpper 7 = .ok (.lconst 0, 1) := by decide +kernel
theorem dX3_pressUpper_8 : decode cX3_pressUpper 8 = .ok (.aload_n 0, 1) := by decide +kernel
theorem dX3_pressUpper_9 : decode cX3_pressUpper 9 = .ok (.getfield 9, 3) := by decide +kernel
theorem dX3_pressUpper_12 : decode cX3_pressUpper 12 = .ok (.iload_n 2, 1) := by decide +kernel
theorem dX3_pressUpper_13 : decode cX3_pressUpper 13 = .ok (.laload, 1) := by decide +kernel
theorem dX3_pressUpper_14 : decode cX3_pressUpper 14 = .ok (.invokestatic 84, 3) := by decide +kernel
theorem dX3_pressUpper_17 : decode cX3_pressUpper 17 = .ok (.lmul, 1) := by decide +kernel
theorem dX3_pressUpper_18 : decode cX3_pressUpper 18 = .ok (.lreturn, 1) := by decide +kernel
set_option maxRecDepth 20000 in
theorem ggX3_pullLies_X3_pullUpper : GoodIn wsX3_pullLies wsX3_pullUpper := goodIn_r _ [6, 7, 1, 8, 9, 10, 11, 12, 13, 14, 15, 16, 17, 18, 19, 26, 27, 28, 29, 30, 31, 32, 33, 20, 21, 22, 23, 24, 25] (by decide +kernel) (by decide +kernel)
set_option maxRecDepth 20000 in
theorem gX3_pullLies_X3_pullUpper : GoodIn wsX3_pullLies (wsV RX3 90 RX3 yX3_pullUpper wsX3_pullUpper) := goodIn_app (goodIn_of _ (by decide +kernel)) ggX3_pullLies_X3_pullUpper
theorem dX3_pullLies_0 : decode cX3_pullLies 0 = .ok (.aload_n 0, 1) := by decide +kernel
theorem dX3_pullLies_1 : decode cX3_pullLies 1 = .ok (.aload_n 1, 1) := by decide +kernel
theorem dX3_pullLies_2 : decode cX3_pullLies 2 = .ok (.iload_n 2, 1) := by decide +kernel
theorem dX3_pullLies_3 : decode cX3_pullLies 3 = .ok (.invokevirtual 90, 3) := by decide +kernel
theorem dX3_pullLies_6 : decode cX3_pullLies 6 = .ok (.lstore 5, 2) := by decide +kernel
theorem dX3_pullLies_8 : decode cX3_pullLies 8 = .ok (.lload 5, 2) := by decide +kernel
theorem dX3_pullLies_10 : decode cX3_pullLies 10 = .ok (.aload_n 0, 1) := by decide +kernel
theorem dX3_pullLies_11 : decode cX3_pullLies 11 = .ok (.getfield 15, 3) := by decide +kernel
theorem dX3_pullLies_14 : decode cX3_pullLies 14 = .ok (.iload_n 3, 1) := by decide +kernel
theorem dX3_pullLies_15 : decode cX3_pullLies 15 = .ok (.i2l, 1) := by decide +kernel
theorem dX3_pullLies_16 : decode cX3_pullLies 16 = .ok (.lmul, 1) := by decide +kernel
theorem dX3_pullLies_17 : decode cX3_pullLies 17 = .ok (.lcmp, 1) := by decide +kernel
theorem dX3_pullLies_18 : decode cX3_pullLies 18 = .ok (.ifCond .lt 21, 3) := by decide +kernel
theorem dX3_pullLies_21 : decode cX3_pullLies 21 = .ok (.lload 5, 2) := by decide +kernel
theorem dX3_pullLies_23 : decode cX3_pullLies 23 = .ok (.aload_n 0, 1) := by decide +kernel
theorem dX3_pullLies_24 : decode cX3_pullLies 24 = .ok (.getfield 15, 3) := by decide +kernel
theorem dX3_pullLies_27 : decode cX3_pullLies 27 = .ok (.iload 4, 2) := by decide +kernel
theorem dX3_pullLies_29 : decode cX3_pullLies 29 = .ok (.i2l, 1) := by decide +kernel
theorem dX3_pullLies_30 : decode cX3_pullLies 30 = .ok (.lmul, 1) := by decide +kernel
theorem dX3_pullLies_31 : decode cX3_pullLies 31 = .ok (.lcmp, 1) := by decide +kernel
theorem dX3_pullLies_32 : decode cX3_pullLies 32 = .ok (.ifCond .gt 7, 3) := by decide +kernel
theorem dX3_pullLies_35 : decode cX3_pullLies 35 = .ok (.iconst 1, 1) := by decide +kernel
theorem dX3_pullLies_36 : decode cX3_pullLies 36 = .ok (.goto 4, 3) := by decide +kernel
theorem dX3_pullLies_39 : decode cX3_pullLies 39 = .ok (.iconst 0, 1) := by decide +kernel
theorem dX3_pullLies_40 : decode cX3_pullLies 40 = .ok (.ireturn, 1) := by decide +kernel
set_option maxRecDepth 20000 in
theorem ggX3_slackCount_X3_pullUpper : GoodIn wsX3_slackCount wsX3_pullUpper := goodIn_r _ [6, 7, 8, 9, 10, 11, 12, 13, 14, 15, 16, 17, 18, 19, 20, 24, 25, 26, 27, 28, 29, 30, 31, 32, 33, 34, 35, 36, 37] (by decide +kernel) (by decide +kernel)
set_option maxRecDepth 20000 in
theorem gX3_slackCount_X3_pullUpper : GoodIn wsX3_slackCount (wsV RX3 90 RX3 yX3_pullUpper wsX3_pullUpper) := goodIn_app (goodIn_of _ (by decide +kernel)) ggX3_slackCount_X3_pullUpper
set_option maxRecDepth 20000 in
theorem ggX3_slackCount_X7_asNumber : GoodIn wsX3_slackCount wsX7_asNumber := goodIn_r _ [23] (by decide +kernel) (by decide +kernel)
set_option maxRecDepth 20000 in
theorem gX3_slackCount_X7_asNumber_n94 : GoodIn wsX3_slackCount (wsX7_asNumber) := ggX3_slackCount_X7_asNumber
theorem dX3_slackCount_0 : decode cX3_slackCount 0 = .ok (.iconst 0, 1) := by decide +kernel
theorem dX3_slackCount_1 : decode cX3_slackCount 1 = .ok (.istore_n 2, 1) := by decide +kernel
theorem dX3_slackCount_2 : decode cX3_slackCount 2 = .ok (.iconst 0, 1) := by decide +kernel
theorem dX3_slackCount_3 : decode cX3_slackCount 3 = .ok (.istore_n 3, 1) := by decide +kernel
theorem dX3_slackCount_4 : decode cX3_slackCount 4 = .ok (.iload_n 3, 1) := by decide +kernel
theorem dX3_slackCount_5 : decode cX3_slackCount 5 = .ok (.aload_n 1, 1) := by decide +kernel
theorem dX3_slackCount_6 : decode cX3_slackCount 6 = .ok (.getfield 48, 3) := by decide +kernel
theorem dX3_slackCount_9 : decode cX3_slackCount 9 = .ok (.if_icmp .ge 31, 3) := by decide +kernel
theorem dX3_slackCount_12 : decode cX3_slackCount 12 = .ok (.iload_n 2, 1) := by decide +kernel
theorem dX3_slackCount_13 : decode cX3_slackCount 13 = .ok (.aload_n 0, 1) := by decide +kernel
theorem dX3_slackCount_14 : decode cX3_slackCount 14 = .ok (.aload_n 1, 1) := by decide +kernel
theorem dX3_slackCount_15 : decode cX3_slackCount 15 = .ok (.iload_n 3, 1) := by decide +kernel
theorem dX3_slackCount_16 : decode cX3_slackCount 16 = .ok (.invokevirtual 90, 3) := by decide +kernel
theorem dX3_slackCount_19 : decode cX3_slackCount 19 = .ok (.lconst 0, 1) := by decide +kernel
theorem dX3_slackCount_20 : decode cX3_slackCount 20 = .ok (.lcmp, 1) := by decide +kernel
theorem dX3_slackCount_21 : decode cX3_slackCount 21 = .ok (.ifCond .ne 7, 3) := by decide +kernel
theorem dX3_slackCount_24 : decode cX3_slackCount 24 = .ok (.iconst 1, 1) := by decide +kernel
theorem dX3_slackCount_25 : decode cX3_slackCount 25 = .ok (.goto 4, 3) := by decide +kernel
theorem dX3_slackCount_28 : decode cX3_slackCount 28 = .ok (.iconst 0, 1) := by decide +kernel
theorem dX3_slackCount_29 : decode cX3_slackCount 29 = .ok (.invokestatic 94, 3) := by decide +kernel
theorem dX3_slackCount_32 : decode cX3_slackCount 32 = .ok (.iadd, 1) := by decide +kernel
theorem dX3_slackCount_33 : decode cX3_slackCount 33 = .ok (.istore_n 2, 1) := by decide +kernel
theorem dX3_slackCount_34 : decode cX3_slackCount 34 = .ok (.iinc 3 1, 3) := by decide +kernel
theorem dX3_slackCount_37 : decode cX3_slackCount 37 = .ok (.goto (-33), 3) := by decide +kernel
theorem dX3_slackCount_40 : decode cX3_slackCount 40 = .ok (.iload_n 2, 1) := by decide +kernel
theorem dX3_slackCount_41 : decode cX3_slackCount 41 = .ok (.ireturn, 1) := by decide +kernel
set_option maxRecDepth 20000 in
theorem ggX3_openCount_X3_pressUpper : GoodIn wsX3_openCount wsX3_pressUpper := goodIn_r _ [6, 7, 8, 9, 10, 11, 12, 16, 17, 18, 19, 20, 21, 22, 23, 24, 25, 26, 27, 28, 29] (by decide +kernel) (by decide +kernel)
set_option maxRecDepth 20000 in
theorem gX3_openCount_X3_pressUpper : GoodIn wsX3_openCount (wsV RX3 98 RX3 yX3_pressUpper wsX3_pressUpper) := goodIn_app (goodIn_of _ (by decide +kernel)) ggX3_openCount_X3_pressUpper
set_option maxRecDepth 20000 in
theorem ggX3_openCount_X7_asNumber : GoodIn wsX3_openCount wsX7_asNumber := goodIn_r _ [15] (by decide +kernel) (by decide +kernel)
set_option maxRecDepth 20000 in
theorem gX3_openCount_X7_asNumber_n94 : GoodIn wsX3_openCount (wsX7_asNumber) := ggX3_openCount_X7_asNumber
theorem dX3_openCount_0 : decode cX3_openCount 0 = .ok (.iconst 0, 1) := by decide +kernel
theorem dX3_openCount_1 : decode cX3_openCount 1 = .ok (.istore_n 2, 1) := by decide +kernel
theorem dX3_openCount_2 : decode cX3_openCount 2 = .ok (.iconst 0, 1) := by decide +kernel
theorem dX3_openCount_3 : decode cX3_openCount 3 = .ok (.istore_n 3, 1) := by decide +kernel
theorem dX3_openCount_4 : decode cX3_openCount 4 = .ok (.iload_n 3, 1) := by decide +kernel
theorem dX3_openCount_5 : decode cX3_openCount 5 = .ok (.aload_n 1, 1) := by decide +kernel
theorem dX3_openCount_6 : decode cX3_openCount 6 = .ok (.getfield 48, 3) := by decide +kernel
theorem dX3_openCount_9 : decode cX3_openCount 9 = .ok (.if_icmp .ge 31, 3) := by decide +kernel
theorem dX3_openCount_12 : decode cX3_openCount 12 = .ok (.iload_n 2, 1) := by decide +kernel
theorem dX3_openCount_13 : decode cX3_openCount 13 = .ok (.aload_n 0, 1) := by decide +kernel
theorem dX3_openCount_14 : decode cX3_openCount 14 = .ok (.aload_n 1, 1) := by decide +kernel
theorem dX3_openCount_15 : decode cX3_openCount 15 = .ok (.iload_n 3, 1) := by decide +kernel
theorem dX3_openCount_16 : decode cX3_openCount 16 = .ok (.invokevirtual 98, 3) := by decide +kernel
theorem dX3_openCount_19 : decode cX3_openCount 19 = .ok (.lconst 0, 1) := by decide +kernel
theorem dX3_openCount_20 : decode cX3_openCount 20 = .ok (.lcmp, 1) := by decide +kernel
theorem dX3_openCount_21 : decode cX3_openCount 21 = .ok (.ifCond .ne 7, 3) := by decide +kernel
theorem dX3_openCount_24 : decode cX3_openCount 24 = .ok (.iconst 1, 1) := by decide +kernel
theorem dX3_openCount_25 : decode cX3_openCount 25 = .ok (.goto 4, 3) := by decide +kernel
theorem dX3_openCount_28 : decode cX3_openCount 28 = .ok (.iconst 0, 1) := by decide +kernel
theorem dX3_openCount_29 : decode cX3_openCount 29 = .ok (.invokestatic 94, 3) := by decide +kernel
theorem dX3_openCount_32 : decode cX3_openCount 32 = .ok (.iadd, 1) := by decide +kernel
theorem dX3_openCount_33 : decode cX3_openCount 33 = .ok (.istore_n 2, 1) := by decide +kernel
theorem dX3_openCount_34 : decode cX3_openCount 34 = .ok (.iinc 3 1, 3) := by decide +kernel
theorem dX3_openCount_37 : decode cX3_openCount 37 = .ok (.goto (-33), 3) := by decide +kernel
theorem dX3_openCount_40 : decode cX3_openCount 40 = .ok (.iload_n 2, 1) := by decide +kernel
theorem dX3_openCount_41 : decode cX3_openCount 41 = .ok (.ireturn, 1) := by decide +kernel
set_option maxRecDepth 20000 in
theorem ggX3_leakPlace_X3_pressUpper : GoodIn wsX3_leakPlace wsX3_pressUpper := goodIn_r _ [6, 7, 8, 9, 10, 11, 12, 13, 14, 15, 16, 17, 18, 19, 20, 21, 22, 23, 24, 25, 26] (by decide +kernel) (by decide +kernel)
set_option maxRecDepth 20000 in
theorem gX3_leakPlace_X3_pressUpper : GoodIn wsX3_leakPlace (wsV RX3 98 RX3 yX3_pressUpper wsX3_pressUpper) := goodIn_app (goodIn_of _ (by decide +kernel)) ggX3_leakPlace_X3_pressUpper
theorem dX3_leakPlace_0 : decode cX3_leakPlace 0 = .ok (.iconst 0, 1) := by decide +kernel
theorem dX3_leakPlace_1 : decode cX3_leakPlace 1 = .ok (.istore_n 2, 1) := by decide +kernel
theorem dX3_leakPlace_2 : decode cX3_leakPlace 2 = .ok (.iconst 1, 1) := by decide +kernel
theorem dX3_leakPlace_3 : decode cX3_leakPlace 3 = .ok (.istore_n 3, 1) := by decide +kernel
theorem dX3_leakPlace_4 : decode cX3_leakPlace 4 = .ok (.iload_n 3, 1) := by decide +kernel
theorem dX3_leakPlace_5 : decode cX3_leakPlace 5 = .ok (.aload_n 1, 1) := by decide +kernel
theorem dX3_leakPlace_6 : decode cX3_leakPlace 6 = .ok (.getfield 48, 3) := by decide +kernel
theorem dX3_leakPlace_9 : decode cX3_leakPlace 9 = .ok (.if_icmp .ge 27, 3) := by decide +kernel
theorem dX3_leakPlace_12 : decode cX3_leakPlace 12 = .ok (.aload_n 0, 1) := by decide +kernel
theorem dX3_leakPlace_13 : decode cX3_leakPlace 13 = .ok (.aload_n 1, 1) := by decide +kernel
theorem dX3_leakPlace_14 : decode cX3_leakPlace 14 = .ok (.iload_n 3, 1) := by decide +kernel
theorem dX3_leakPlace_15 : decode cX3_leakPlace 15 = .ok (.invokevirtual 98, 3) := by decide +kernel
theorem dX3_leakPlace_18 : decode cX3_leakPlace 18 = .ok (.aload_n 0, 1) := by decide +kernel
theorem dX3_leakPlace_19 : decode cX3_leakPlace 19 = .ok (.aload_n 1, 1) := by decide +kernel
theorem dX3_leakPlace_20 : decode cX3_leakPlace 20 = .ok (.iload_n 2, 1) := by decide +kernel
theorem dX3_leakPlace_21 : decode cX3_leakPlace 21 = .ok (.invokevirtual 98, 3) := by decide +kernel
theorem dX3_leakPlace_24 : decode cX3_leakPlace 24 = .ok (.lcmp, 1) := by decide +kernel
theorem dX3_leakPlace_25 : decode cX3_leakPlace 25 = .ok (.ifCond .ge 5, 3) := by decide +kernel
theorem dX3_leakPlace_28 : decode cX3_leakPlace 28 = .ok (.iload_n 3, 1) := by decide +kernel
theorem dX3_leakPlace_29 : decode cX3_leakPlace 29 = .ok (.istore_n 2, 1) := by decide +kernel
theorem dX3_leakPlace_30 : decode cX3_leakPlace 30 = .ok (.iinc 3 1, 3) := by decide +kernel
theorem dX3_leakPlace_33 : decode cX3_leakPlace 33 = .ok (.goto (-29), 3) := by decide +kernel
theorem dX3_leakPlace_36 : decode cX3_leakPlace 36 = .ok (.iload_n 2, 1) := by decide +kernel
theorem dX3_leakPlace_37 : decode cX3_leakPlace 37 = .ok (.ireturn, 1) := by decide +kernel
theorem dX4_init_0 : decode cX4_init 0 = .ok (.aload_n 0, 1) := by decide +kernel
theorem dX4_init_1 : decode cX4_init 1 = .ok (.invokespecial 3, 3) := by decide +kernel
theorem dX4_init_4 : decode cX4_init 4 = .ok (.aload_n 0, 1) := by decide +kernel
theorem dX4_init_5 : decode cX4_init 5 = .ok (.iconst 3, 1) := by decide +kernel
theorem dX4_init_6 : decode cX4_init 6 = .ok (.newarray .int, 2) := by decide +kernel
theorem dX4_init_8 : decode cX4_init 8 = .ok (.dup, 1) := by decide +kernel
theorem dX4_init_9 : decode cX4_init 9 = .ok (.iconst 0, 1) := by decide +kernel
theorem dX4_init_10 : decode cX4_init 10 = .ok (.iconst 1, 1) := by decide +kernel
theorem dX4_init_11 : decode cX4_init 11 = .ok (.iastore, 1) := by decide +kernel
theorem dX4_init_12 : decode cX4_init 12 = .ok (.dup, 1) := by decide +kernel
theorem dX4_init_13 : decode cX4_init 13 = .ok (.iconst 1, 1) := by decide +kernel
theorem dX4_init_14 : decode cX4_init 14 = .ok (.iconst 2, 1) := by decide +kernel
theorem dX4_init_15 : decode cX4_init 15 = .ok (.iastore, 1) := by decide +kernel
theorem dX4_init_16 : decode cX4_init 16 = .ok (.dup, 1) := by decide +kernel
theorem dX4_init_17 : decode cX4_init 17 = .ok (.iconst 2, 1) := by decide +kernel
theorem dX4_init_18 : decode cX4_init 18 = .ok (.iconst 1, 1) := by decide +kernel
theorem dX4_init_19 : decode cX4_init 19 = .ok (.iastore, 1) := by decide +kernel
theorem dX4_init_20 : decode cX4_init 20 = .ok (.putfield 9, 3) := by decide +kernel
theorem dX4_init_23 : decode cX4_init 23 = .ok (.aload_n 0, 1) := by decide +kernel
theorem dX4_init_24 : decode cX4_init 24 = .ok (.bipush 6, 2) := by decide +kernel
theorem dX4_init_26 : decode cX4_init 26 = .ok (.newarray .int, 2) := by decide +kernel
theorem dX4_init_28 : decode cX4_init 28 = .ok (.putfield 15, 3) := by decide +kernel
theorem dX4_init_31 : decode cX4_init 31 = .ok (.return_, 1) := by decide +kernel
set_option maxRecDepth 20000 in
theorem ggX4_begin_X4_weigh : GoodIn wsX4_begin wsX4_weigh := goodIn_r _ [5, 6, 7, 8] (by decide +kernel) (by decide +kernel)
set_option maxRecDepth 20000 in
theorem gX4_begin_X4_weigh : GoodIn wsX4_begin (wsV RX4 18 RX4 yX4_weigh wsX4_weigh) := goodIn_app (goodIn_of _ (by decide +kernel)) ggX4_begin_X4_weigh
theorem dX4_begin_0 : decode cX4_begin 0 = .ok (.aload_n 0, 1) := by decide +kernel
theorem dX4_begin_1 : decode cX4_begin 1 = .ok (.iconst 1, 1) := by decide +kernel
theorem dX4_begin_2 : decode cX4_begin 2 = .ok (.iconst 2, 1) := by decide +kernel
theorem dX4_begin_3 : decode cX4_begin 3 = .ok (.iconst 1, 1) := by decide +kernel
theorem dX4_begin_4 : decode cX4_begin 4 = .ok (.invokevirtual 18, 3) := by decide +kernel
theorem dX4_begin_7 : decode cX4_begin 7 = .ok (.return_, 1) := by decide +kernel
theorem dX4_weigh_0 : decode cX4_weigh 0 = .ok (.aload_n 0, 1) := by decide +kernel
theorem dX4_weigh_1 : decode cX4_weigh 1 = .ok (.getfield 9, 3) := by decide +kernel
theorem dX4_weigh_4 : decode cX4_weigh 4 = .ok (.iconst 0, 1) := by decide +kernel
theorem dX4_weigh_5 : decode cX4_weigh 5 = .ok (.iload_n 1, 1) := by decide +kernel
theorem dX4_weigh_6 : decode cX4_weigh 6 = .ok (.iastore, 1) := by decide +kernel
theorem dX4_weigh_7 : decode cX4_weigh 7 = .ok (.aload_n 0, 1) := by decide +kernel
theorem dX4_weigh_8 : decode cX4_weigh 8 = .ok (.getfield 9, 3) := by decide +kernel
theorem dX4_weigh_11 : decode cX4_weigh 11 = .ok (.iconst 1, 1) := by decide +kernel
theorem dX4_weigh_12 : decode cX4_weigh 12 = .ok (.iload_n 2, 1) := by decide +kernel
theorem dX4_weigh_13 : decode cX4_weigh 13 = .ok (.iastore, 1) := by decide +kernel
theorem dX4_weigh_14 : decode cX4_weigh 14 = .ok (.aload_n 0, 1) := by decide +kernel
theorem dX4_weigh_15 : decode cX4_weigh 15 = .ok (.getfield 9, 3) := by decide +kernel
theorem dX4_weigh_18 : decode cX4_weigh 18 = .ok (.iconst 2, 1) := by decide +kernel
theorem dX4_weigh_19 : decode cX4_weigh 19 = .ok (.iload_n 3, 1) := by decide +kernel
theorem dX4_weigh_20 : decode cX4_weigh 20 = .ok (.iastore, 1) := by decide +kernel
theorem dX4_weigh_21 : decode cX4_weigh 21 = .ok (.return_, 1) := by decide +kernel
set_option maxRecDepth 20000 in
theorem ggX4_all_X2_wholeCount : GoodIn wsX4_all wsX2_wholeCount := goodIn_r _ [6, 7, 8, 9, 10, 11, 12, 13, 14, 15, 18, 19, 20, 21, 22, 23, 24, 25] (by decide +kernel) (by decide +kernel)
set_option maxRecDepth 20000 in
theorem gX4_all_X2_wholeCount : GoodIn wsX4_all (wsV RX4 22 RX2 yX2_wholeCount wsX2_wholeCount) := goodIn_app (goodIn_of _ (by decide +kernel)) ggX4_all_X2_wholeCount
theorem dX4_all_0 : decode cX4_all 0 = .ok (.lconst 1, 1) := by decide +kernel
theorem dX4_all_1 : decode cX4_all 1 = .ok (.lstore_n 2, 1) := by decide +kernel
theorem dX4_all_2 : decode cX4_all 2 = .ok (.aload_n 1, 1) := by decide +kernel
theorem dX4_all_3 : decode cX4_all 3 = .ok (.invokevirtual 22, 3) := by decide +kernel
theorem dX4_all_6 : decode cX4_all 6 = .ok (.istore 4, 2) := by decide +kernel
theorem dX4_all_8 : decode cX4_all 8 = .ok (.iload 4, 2) := by decide +kernel
theorem dX4_all_10 : decode cX4_all 10 = .ok (.ifCond .le 33, 3) := by decide +kernel
theorem dX4_all_13 : decode cX4_all 13 = .ok (.lload_n 2, 1) := by decide +kernel
theorem dX4_all_14 : decode cX4_all 14 = .ok (.aload_n 0, 1) := by decide +kernel
theorem dX4_all_15 : decode cX4_all 15 = .ok (.getfield 9, 3) := by decide +kernel
theorem dX4_all_18 : decode cX4_all 18 = .ok (.iconst 0, 1) := by decide +kernel
theorem dX4_all_19 : decode cX4_all 19 = .ok (.iaload, 1) := by decide +kernel
theorem dX4_all_20 : decode cX4_all 20 = .ok (.aload_n 0, 1) := by decide +kernel
theorem dX4_all_21 : decode cX4_all 21 = .ok (.getfield 9, 3) := by decide +kernel
theorem dX4_all_24 : decode cX4_all 24 = .ok (.iconst 1, 1) := by decide +kernel
theorem dX4_all_25 : decode cX4_all 25 = .ok (.iaload, 1) := by decide +kernel
theorem dX4_all_26 : decode cX4_all 26 = .ok (.iadd, 1) := by decide +kernel
theorem dX4_all_27 : decode cX4_all 27 = .ok (.aload_n 0, 1) := by decide +kernel
theorem dX4_all_28 : decode cX4_all 28 = .ok (.getfield 9, 3) := by decide +kernel
theorem dX4_all_31 : decode cX4_all 31 = .ok (.iconst 2, 1) := by decide +kernel
theorem dX4_all_32 : decode cX4_all 32 = .ok (.iaload, 1) := by decide +kernel
theorem dX4_all_33 : decode cX4_all 33 = .ok (.iadd, 1) := by decide +kernel
theorem dX4_all_34 : decode cX4_all 34 = .ok (.i2l, 1) := by decide +kernel
theorem dX4_all_35 : decode cX4_all 35 = .ok (.lmul, 1) := by decide +kernel
theorem dX4_all_36 : decode cX4_all 36 = .ok (.lstore_n 2, 1) := by decide +kernel
theorem dX4_all_37 : decode cX4_all 37 = .ok (.iinc 4 (-1), 3) := by decide +kernel
theorem dX4_all_40 : decode cX4_all 40 = .ok (.goto (-32), 3) := by decide +kernel
theorem dX4_all_43 : decode cX4_all 43 = .ok (.lload_n 2, 1) := by decide +kernel
theorem dX4_all_44 : decode cX4_all 44 = .ok (.lreturn, 1) := by decide +kernel
set_option maxRecDepth 20000 in
theorem ggX4_favourable_X2_wholeCount : GoodIn wsX4_favourable wsX2_wholeCount := goodIn_r _ [11, 12, 13, 14, 15, 16, 17, 18, 19, 20, 98, 99, 100, 101, 102, 103, 104, 105] (by decide +kernel) (by decide +kernel)
set_option maxRecDepth 20000 in
theorem gX4_favourable_X2_wholeCount : GoodIn wsX4_favourable (wsV RX4 22 RX2 yX2_wholeCount wsX2_wholeCount) := goodIn_app (goodIn_of _ (by decide +kernel)) ggX4_favourable_X2_wholeCount
set_option maxRecDepth 20000 in
theorem ggX4_favourable_X4_miss : GoodIn wsX4_favourable wsX4_miss := goodIn_r _ [25, 26, 27, 1, 2, 28, 29, 30, 31, 32, 33, 34, 10, 35, 13, 98, 99, 100, 101, 102, 103, 104, 105, 106, 107] (by decide +kernel) (by decide +kernel)
set_option maxRecDepth 20000 in
theorem gX4_favourable_X4_miss : GoodIn wsX4_favourable (wsV RX4 37 RX4 yX4_miss wsX4_miss) := goodIn_app (goodIn_of _ (by decide +kernel)) ggX4_favourable_X4_miss
set_option maxRecDepth 20000 in
theorem ggX4_favourable_X4_allLie : GoodIn wsX4_favourable wsX4_allLie := goodIn_r _ [38, 39, 26, 40, 41, 42, 43, 44, 45, 46, 47, 48, 49, 50, 51, 52, 53, 54, 55, 10, 56, 12, 57, 58, 59, 60, 61, 62, 63, 64, 65, 66, 67, 68, 69, 70, 71, 72, 73, 74, 75, 76, 77, 78, 79, 80, 81, 82, 83, 84, 85, 32, 33, 34, 35, 13, 86, 87, 88, 89, 90, 91, 92, 93, 94, 95, 30, 96, 97, 98, 99, 100, 101, 102, 103, 104, 105, 108, 109, 110, 111, 112, 113] (by decide +kernel) (by decide +kernel)
set_option maxRecDepth 20000 in
theorem gX4_favourable_X4_allLie : GoodIn wsX4_favourable (va_wsS RX4 41 yX4_allLie wsX4_allLie) := goodIn_app (goodIn_of _ (by decide +kernel)) ggX4_favourable_X4_allLie
theorem dX4_favourable_0 : decode cX4_favourable 0 = .ok (.aload_n 1, 1) := by decide +kernel
theorem dX4_favourable_1 : decode cX4_favourable 1 = .ok (.getfield 28, 3) := by decide +kernel
theorem dX4_favourable_4 : decode cX4_favourable 4 = .ok (.iconst 0, 1) := by decide +kernel
theorem dX4_favourable_5 : decode cX4_favourable 5 = .ok (.aload_n 0, 1) := by decide +kernel
theorem dX4_favourable_6 : decode cX4_favourable 6 = .ok (.getfield 15, 3) := by decide +kernel
theorem dX4_favourable_9 : decode cX4_favourable 9 = .ok (.iconst 0, 1) := by decide +kernel
theorem dX4_favourable_10 : decode cX4_favourable 10 = .ok (.bipush 6, 2) := by decide +kernel
theorem dX4_favourable_12 : decode cX4_favourable 12 = .ok (.invokestatic 31, 3) := by decide +kernel
theorem dX4_favourable_15 : decode cX4_favourable 15 = .ok (.iconst 1, 1) := by decide +kernel
theorem dX4_favourable_16 : decode cX4_favourable 16 = .ok (.istore 5, 2) := by decide +kernel
theorem dX4_favourable_18 : decode cX4_favourable 18 = .ok (.aload_n 1, 1) := by decide +kernel
theorem dX4_favourable_19 : decode cX4_favourable 19 = .ok (.invokevirtual 22, 3) := by decide +kernel
theorem dX4_favourable_22 : decode cX4_favourable 22 = .ok (.istore 6, 2) := by decide +kernel
theorem dX4_favourable_24 : decode cX4_favourable 24 = .ok (.iload 6, 2) := by decide +kernel
theorem dX4_favourable_26 : decode cX4_favourable 26 = .ok (.ifCond .le 15, 3) := by decide +kernel
theorem dX4_favourable_29 : decode cX4_favourable 29 = .ok (.iload 5, 2) := by decide +kernel
theorem dX4_favourable_31 : decode cX4_favourable 31 = .ok (.iconst 3, 1) := by decide +kernel
theorem dX4_favourable_32 : decode cX4_favourable 32 = .ok (.imul, 1) := by decide +kernel
theorem dX4_favourable_33 : decode cX4_favourable 33 = .ok (.istore 5, 2) := by decide +kernel
theorem dX4_favourable_35 : decode cX4_favourable 35 = .ok (.iinc 6 (-1), 3) := by decide +kernel
theorem dX4_favourable_38 : decode cX4_favourable 38 = .ok (.goto (-14), 3) := by decide +kernel
theorem dX4_favourable_41 : decode cX4_favourable 41 = .ok (.lconst 0, 1) := by decide +kernel
theorem dX4_favourable_42 : decode cX4_favourable 42 = .ok (.lstore 6, 2) := by decide +kernel
theorem dX4_favourable_44 : decode cX4_favourable 44 = .ok (.iconst 0, 1) := by decide +kernel
theorem dX4_favourable_45 : decode cX4_favourable 45 = .ok (.istore 8, 2) := by decide +kernel
theorem dX4_favourable_47 : decode cX4_favourable 47 = .ok (.iload 8, 2) := by decide +kernel
theorem dX4_favourable_49 : decode cX4_favourable 49 = .ok (.iload 5, 2) := by decide +kernel
theorem dX4_favourable_51 : decode cX4_favourable 51 = .ok (.if_icmp .ge 43, 3) := by decide +kernel
theorem dX4_favourable_54 : decode cX4_favourable 54 = .ok (.aload_n 0, 1) := by decide +kernel
theorem dX4_favourable_55 : decode cX4_favourable 55 = .ok (.aload_n 1, 1) := by decide +kernel
theorem dX4_favourable_56 : decode cX4_favourable 56 = .ok (.iload 8, 2) := by decide +kernel
theorem dX4_favourable_58 : decode cX4_favourable 58 = .ok (.invokevirtual 37, 3) := by decide +kernel
theorem dX4_favourable_61 : decode cX4_favourable 61 = .ok (.lstore 9, 2) := by decide +kernel
theorem dX4_favourable_63 : decode cX4_favourable 63 = .ok (.lload 9, 2) := by decide +kernel
theorem dX4_favourable_65 : decode cX4_favourable 65 = .ok (.lconst 0, 1) := by decide +kernel
theorem dX4_favourable_66 : decode cX4_favourable 66 = .ok (.lcmp, 1) := by decide +kernel
theorem dX4_favourable_67 : decode cX4_favourable 67 = .ok (.ifCond .le 21, 3) := by decide +kernel
theorem dX4_favourable_70 : decode cX4_favourable 70 = .ok (.aload_n 1, 1) := by decide +kernel
theorem dX4_favourable_71 : decode cX4_favourable 71 = .ok (.aload_n 2, 1) := by decide +kernel
theorem dX4_favourable_72 : decode cX4_favourable 72 = .ok (.iload_n 3, 1) := by decide +kernel
theorem dX4_favourable_73 : decode cX4_favourable 73 = .ok (.iload 4, 2) := by decide +kernel
theorem dX4_favourable_75 : decode cX4_favourable 75 = .ok (.invokestatic 41, 3) := by decide +kernel
theorem dX4_favourable_78 : decode cX4_favourable 78 = .ok (.ifCond .eq 10, 3) := by decide +kernel
theorem dX4_favourable_81 : decode cX4_favourable 81 = .ok (.lload 6, 2) := by decide +kernel
theorem dX4_favourable_83 : decode cX4_favourable 83 = .ok (.lload 9, 2) := by decide +kernel
theorem dX4_favourable_85 : decode cX4_favourable 85 = .ok (.ladd, 1) := by decide +kernel
theorem dX4_favourable_86 : decode cX4_favourable 86 = .ok (.lstore 6, 2) := by decide +kernel
theorem dX4_favourable_88 : decode cX4_favourable 88 = .ok (.iinc 8 1, 3) := by decide +kernel
theorem dX4_favourable_91 : decode cX4_favourable 91 = .ok (.goto (-44), 3) := by decide +kernel
theorem dX4_favourable_94 : decode cX4_favourable 94 = .ok (.aload_n 0, 1) := by decide +kernel
theorem dX4_favourable_95 : decode cX4_favourable 95 = .ok (.getfield 15, 3) := by decide +kernel
theorem dX4_favourable_98 : decode cX4_favourable 98 = .ok (.iconst 0, 1) := by decide +kernel
theorem dX4_favourable_99 : decode cX4_favourable 99 = .ok (.aload_n 1, 1) := by decide +kernel
theorem dX4_favourable_100 : decode cX4_favourable 100 = .ok (.getfield 28, 3) := by decide +kernel
theorem dX4_favourable_103 : decode cX4_favourable 103 = .ok (.iconst 0, 1) := by decide +kernel
theorem dX4_favourable_104 : decode cX4_favourable 104 = .ok (.bipush 6, 2) := by decide +kernel
theorem dX4_favourable_106 : decode cX4_favourable 106 = .ok (.invokestatic 31, 3) := by decide +kernel
theorem dX4_favourable_109 : decode cX4_favourable 109 = .ok (.lload 6, 2) := by decide +kernel
theorem dX4_favourable_111 : decode cX4_favourable 111 = .ok (.lreturn, 1) := by decide +kernel
set_option maxRecDepth 20000 in
theorem ggX4_miss_X2_isBroken : GoodIn wsX4_miss wsX2_isBroken := goodIn_r _ [13, 14, 15, 16, 17, 18, 19, 20, 21, 22] (by decide +kernel) (by decide +kernel)
set_option maxRecDepth 20000 in
theorem gX4_miss_X2_isBroken : GoodIn wsX4_miss (wsV RX4 49 RX2 yX2_isBroken wsX2_isBroken) := goodIn_app (goodIn_of _ (by decide +kernel)) ggX4_miss_X2_isBroken
theorem dX4_miss_0 : decode cX4_miss 0 = .ok (.lconst 1, 1) := by decide +kernel
theorem dX4_miss_1 : decode cX4_miss 1 = .ok (.lstore_n 3, 1) := by decide +kernel
theorem dX4_miss_2 : decode cX4_miss 2 = .ok (.iload_n 2, 1) := by decide +kernel
theorem dX4_miss_3 : decode cX4_miss 3 = .ok (.istore 5, 2) := by decide +kernel
theorem dX4_miss_5 : decode cX4_miss 5 = .ok (.iconst 0, 1) := by decide +kernel
theorem dX4_miss_6 : decode cX4_miss 6 = .ok (.istore 6, 2) := by decide +kernel
theorem dX4_miss_8 : decode cX4_miss 8 = .ok (.iload 6, 2) := by decide +kernel
theorem dX4_miss_10 : decode cX4_miss 10 = .ok (.aload_n 1, 1) := by decide +kernel
theorem dX4_miss_11 : decode cX4_miss 11 = .ok (.getfield 45, 3) := by decide +kernel
theorem dX4_miss_14 : decode cX4_miss 14 = .ok (.if_icmp .ge 64, 3) := by decide +kernel
theorem dX4_miss_17 : decode cX4_miss 17 = .ok (.aload_n 1, 1) := by decide +kernel
theorem dX4_miss_18 : decode cX4_miss 18 = .ok (.iload 6, 2) := by decide +kernel
theorem dX4_miss_20 : decode cX4_miss 20 = .ok (.invokevirtual 49, 3) := by decide +kernel
theorem dX4_miss_23 : decode cX4_miss 23 = .ok (.ifCond .ne 49, 3) := by decide +kernel
theorem dX4_miss_26 : decode cX4_miss 26 = .ok (.iload 5, 2) := by decide +kernel
theorem dX4_miss_28 : decode cX4_miss 28 = .ok (.iconst 3, 1) := by decide +kernel
theorem dX4_miss_29 : decode cX4_miss 29 = .ok (.irem, 1) := by decide +kernel
theorem dX4_miss_30 : decode cX4_miss 30 = .ok (.istore 7, 2) := by decide +kernel
theorem dX4_miss_32 : decode cX4_miss 32 = .ok (.iload 5, 2) := by decide +kernel
theorem dX4_miss_34 : decode cX4_miss 34 = .ok (.iconst 3, 1) := by decide +kernel
theorem dX4_miss_35 : decode cX4_miss 35 = .ok (.idiv, 1) := by decide +kernel
theorem dX4_miss_36 : decode cX4_miss 36 = .ok (.istore 5, 2) := by decide +kernel
theorem dX4_miss_38 : decode cX4_miss 38 = .ok (.lload_n 3, 1) := by decide +kernel
theorem dX4_miss_39 : decode cX4_miss 39 = .ok (.aload_n 0, 1) := by decide +kernel
theorem dX4_miss_40 : decode cX4_miss 40 = .ok (.getfield 9, 3) := by decide +kernel
theorem dX4_miss_43 : decode cX4_miss 43 = .ok (.iload 7, 2) := by decide +kernel
theorem dX4_miss_45 : decode cX4_miss 45 = .ok (.iaload, 1) := by decide +kernel
theorem dX4_miss_46 : decode cX4_miss 46 = .ok (.i2l, 1) := by decide +kernel
theorem dX4_miss_47 : decode cX4_miss 47 = .ok (.lmul, 1) := by decide +kernel
theorem dX4_miss_48 : decode cX4_miss 48 = .ok (.lstore_n 3, 1) := by decide +kernel
theorem dX4_miss_49 : decode cX4_miss 49 = .ok (.aload_n 1, 1) := by decide +kernel
theorem dX4_miss_50 : decode cX4_miss 50 = .ok (.getfield 28, 3) := by decide +kernel
theorem dX4_miss_53 : decode cX4_miss 53 = .ok (.iload 6, 2) := by decide +kernel
theorem dX4_miss_55 : decode cX4_miss 55 = .ok (.iconst 0, 1) := by decide +kernel
theorem dX4_miss_56 : decode cX4_miss 56 = .ok (.aload_n 0, 1) := by decide +kernel
theorem dX4_miss_57 : decode cX4_miss 57 = .ok (.getfield 15, 3) := by decide +kernel
theorem dX4_miss_60 : decode cX4_miss 60 = .ok (.iload 6, 2) := by decide +kernel
theorem dX4_miss_62 : decode cX4_miss 62 = .ok (.iaload, 1) := by decide +kernel
theorem dX4_miss_63 : decode cX4_miss 63 = .ok (.iload 7, 2) := by decide +kernel
theorem dX4_miss_65 : decode cX4_miss 65 = .ok (.iadd, 1) := by decide +kernel
theorem dX4_miss_66 : decode cX4_miss 66 = .ok (.iconst 1, 1) := by decide +kernel
theorem dX4_miss_67 : decode cX4_miss 67 = .ok (.isub, 1) := by decide +kernel
theorem dX4_miss_68 : decode cX4_miss 68 = .ok (.invokestatic 53, 3) := by decide +kernel
theorem dX4_miss_71 : decode cX4_miss 71 = .ok (.iastore, 1) := by decide +kernel
theorem dX4_miss_72 : decode cX4_miss 72 = .ok (.iinc 6 1, 3) := by decide +kernel
theorem dX4_miss_75 : decode cX4_miss 75 = .ok (.goto (-67), 3) := by decide +kernel
theorem dX4_miss_78 : decode cX4_miss 78 = .ok (.lload_n 3, 1) := by decide +kernel
theorem dX4_miss_79 : decode cX4_miss 79 = .ok (.lreturn, 1) := by decide +kernel
set_option maxRecDepth 20000 in
theorem ggX4_allLie_X3_settle : GoodIn wsX4_allLie wsX3_settle := goodIn_r _ [7, 8, 9, 10, 6, 11, 12, 13, 14, 15, 16, 17, 18, 19, 20, 21, 22, 23, 24, 25, 26, 27, 28, 29, 30, 31, 32, 33, 34, 35, 36, 37, 38, 39, 40, 41, 42, 43, 44, 45, 46, 47, 48, 49, 50, 69, 70, 71, 72, 73, 74, 75, 76, 77, 78, 79, 80, 81, 82] (by decide +kernel) (by decide +kernel)
set_option maxRecDepth 20000 in
theorem gX4_allLie_X3_settle : GoodIn wsX4_allLie (wsV RX4 62 RX3 yX3_settle wsX3_settle) := goodIn_app (goodIn_of _ (by decide +kernel)) ggX4_allLie_X3_settle
set_option maxRecDepth 20000 in
theorem ggX4_allLie_X2_isBroken : GoodIn wsX4_allLie wsX2_isBroken := goodIn_r _ [54, 55, 69, 70, 71, 72, 73, 74, 75, 76] (by decide +kernel) (by decide +kernel)
set_option maxRecDepth 20000 in
theorem gX4_allLie_X2_isBroken : GoodIn wsX4_allLie (wsV RX4 49 RX2 yX2_isBroken wsX2_isBroken) := goodIn_app (goodIn_of _ (by decide +kernel)) ggX4_allLie_X2_isBroken
set_option maxRecDepth 20000 in
theorem ggX4_allLie_X3_pullLies : GoodIn wsX4_allLie wsX3_pullLies := goodIn_r _ [59, 41, 60, 61, 62, 6, 63, 27, 28, 42, 64, 65, 66, 67, 68, 52, 53, 19, 54, 55, 77, 78, 79, 80, 81, 82, 69, 70, 71, 72, 73, 74, 75, 76] (by decide +kernel) (by decide +kernel)
set_option maxRecDepth 20000 in
theorem gX4_allLie_X3_pullLies : GoodIn wsX4_allLie (wsV RX4 68 RX3 yX3_pullLies wsX3_pullLies) := goodIn_app (goodIn_of _ (by decide +kernel)) ggX4_allLie_X3_pullLies
theorem dX4_allLie_0 : decode cX4_allLie 0 = .ok (.aload_n 1, 1) := by decide +kernel
theorem dX4_allLie_1 : decode cX4_allLie 1 = .ok (.aload_n 0, 1) := by decide +kernel
theorem dX4_allLie_2 : decode cX4_allLie 2 = .ok (.aload_n 0, 1) := by decide +kernel
theorem dX4_allLie_3 : decode cX4_allLie 3 = .ok (.getfield 59, 3) := by decide +kernel
theorem dX4_allLie_6 : decode cX4_allLie 6 = .ok (.invokevirtual 62, 3) := by decide +kernel
theorem dX4_allLie_9 : decode cX4_allLie 9 = .ok (.iconst 0, 1) := by decide +kernel
theorem dX4_allLie_10 : decode cX4_allLie 10 = .ok (.istore 4, 2) := by decide +kernel
theorem dX4_allLie_12 : decode cX4_allLie 12 = .ok (.iload 4, 2) := by decide +kernel
theorem dX4_allLie_14 : decode cX4_allLie 14 = .ok (.aload_n 0, 1) := by decide +kernel
theorem dX4_allLie_15 : decode cX4_allLie 15 = .ok (.getfield 45, 3) := by decide +kernel
theorem dX4_allLie_18 : decode cX4_allLie 18 = .ok (.if_icmp .ge 32, 3) := by decide +kernel
theorem dX4_allLie_21 : decode cX4_allLie 21 = .ok (.aload_n 0, 1) := by decide +kernel
theorem dX4_allLie_22 : decode cX4_allLie 22 = .ok (.iload 4, 2) := by decide +kernel
theorem dX4_allLie_24 : decode cX4_allLie 24 = .ok (.invokevirtual 49, 3) := by decide +kernel
theorem dX4_allLie_27 : decode cX4_allLie 27 = .ok (.ifCond .ne 17, 3) := by decide +kernel
theorem dX4_allLie_30 : decode cX4_allLie 30 = .ok (.aload_n 1, 1) := by decide +kernel
theorem dX4_allLie_31 : decode cX4_allLie 31 = .ok (.aload_n 0, 1) := by decide +kernel
theorem dX4_allLie_32 : decode cX4_allLie 32 = .ok (.iload 4, 2) := by decide +kernel
theorem dX4_allLie_34 : decode cX4_allLie 34 = .ok (.iload_n 2, 1) := by decide +kernel
theorem dX4_allLie_35 : decode cX4_allLie 35 = .ok (.iload_n 3, 1) := by decide +kernel
theorem dX4_allLie_36 : decode cX4_allLie 36 = .ok (.invokevirtual 68, 3) := by decide +kernel
theorem dX4_allLie_39 : decode cX4_allLie 39 = .ok (.ifCond .ne 5, 3) := by decide +kernel
theorem dX4_allLie_42 : decode cX4_allLie 42 = .ok (.iconst 0, 1) := by decide +kernel
theorem dX4_allLie_43 : decode cX4_allLie 43 = .ok (.ireturn, 1) := by decide +kernel
theorem dX4_allLie_44 : decode cX4_allLie 44 = .ok (.iinc 4 1, 3) := by decide +kernel
theorem dX4_allLie_47 : decode cX4_allLie 47 = .ok (.goto (-35), 3) := by decide +kernel
theorem dX4_allLie_50 : decode cX4_allLie 50 = .ok (.iconst 1, 1) := by decide +kernel
theorem dX4_allLie_51 : decode cX4_allLie 51 = .ok (.ireturn, 1) := by decide +kernel
theorem dX5_init_0 : decode cX5_init 0 = .ok (.aload_n 0, 1) := by decide +kernel
theorem dX5_init_1 : decode cX5_init 1 = .ok (.invokespecial 3, 3) := by decide +kernel
theorem dX5_init_4 : decode cX5_init 4 = .ok (.aload_n 0, 1) := by decide +kernel
theorem dX5_init_5 : decode cX5_init 5 = .ok (.iconst (-1), 1) := by decide +kernel
theorem dX5_init_6 : decode cX5_init 6 = .ok (.putfield 9, 3) := by decide +kernel
theorem dX5_init_9 : decode cX5_init 9 = .ok (.aload_n 0, 1) := by decide +kernel
theorem dX5_init_10 : decode cX5_init 10 = .ok (.bipush 12, 2) := by decide +kernel
theorem dX5_init_12 : decode cX5_init 12 = .ok (.newarray .int, 2) := by decide +kernel
theorem dX5_init_14 : decode cX5_init 14 = .ok (.putfield 15, 3) := by decide +kernel
theorem dX5_init_17 : decode cX5_init 17 = .ok (.aload_n 0, 1) := by decide +kernel
theorem dX5_init_18 : decode cX5_init 18 = .ok (.bipush 12, 2) := by decide +kernel
theorem dX5_init_20 : decode cX5_init 20 = .ok (.newarray .int, 2) := by decide +kernel
theorem dX5_init_22 : decode cX5_init 22 = .ok (.putfield 19, 3) := by decide +kernel
theorem dX5_init_25 : decode cX5_init 25 = .ok (.aload_n 0, 1) := by decide +kernel
theorem dX5_init_26 : decode cX5_init 26 = .ok (.bipush 12, 2) := by decide +kernel
theorem dX5_init_28 : decode cX5_init 28 = .ok (.newarray .int, 2) := by decide +kernel
theorem dX5_init_30 : decode cX5_init 30 = .ok (.putfield 22, 3) := by decide +kernel
theorem dX5_init_33 : decode cX5_init 33 = .ok (.aload_n 0, 1) := by decide +kernel
theorem dX5_init_34 : decode cX5_init 34 = .ok (.sipush 160, 3) := by decide +kernel
theorem dX5_init_37 : decode cX5_init 37 = .ok (.newarray .int, 2) := by decide +kernel
theorem dX5_init_39 : decode cX5_init 39 = .ok (.putfield 25, 3) := by decide +kernel
theorem dX5_init_42 : decode cX5_init 42 = .ok (.return_, 1) := by decide +kernel
theorem dX5_append_0 : decode cX5_append 0 = .ok (.bipush 8, 2) := by decide +kernel
theorem dX5_append_2 : decode cX5_append 2 = .ok (.iload_n 1, 1) := by decide +kernel
theorem dX5_append_3 : decode cX5_append 3 = .ok (.iconst 1, 1) := by decide +kernel
theorem dX5_append_4 : decode cX5_append 4 = .ok (.isub, 1) := by decide +kernel
theorem dX5_append_5 : decode cX5_append 5 = .ok (.imul, 1) := by decide +kernel
theorem dX5_append_6 : decode cX5_append 6 = .ok (.istore 4, 2) := by decide +kernel
theorem dX5_append_8 : decode cX5_append 8 = .ok (.iload 4, 2) := by decide +kernel
theorem dX5_append_10 : decode cX5_append 10 = .ok (.ifCond .lt 47, 3) := by decide +kernel
theorem dX5_append_13 : decode cX5_append 13 = .ok (.aload_n 0, 1) := by decide +kernel
theorem dX5_append_14 : decode cX5_append 14 = .ok (.getfield 28, 3) := by decide +kernel
theorem dX5_append_17 : decode cX5_append 17 = .ok (.sipush 160, 3) := by decide +kernel
theorem dX5_append_20 : decode cX5_append 20 = .ok (.if_icmp .ge 37, 3) := by decide +kernel
theorem dX5_append_23 : decode cX5_append 23 = .ok (.aload_n 0, 1) := by decide +kernel
theorem dX5_append_24 : decode cX5_append 24 = .ok (.getfield 25, 3) := by decide +kernel
theorem dX5_append_27 : decode cX5_append 27 = .ok (.aload_n 0, 1) := by decide +kernel
theorem dX5_append_28 : decode cX5_append 28 = .ok (.getfield 28, 3) := by decide +kernel
theorem dX5_append_31 : decode cX5_append 31 = .ok (.lload_n 2, 1) := by decide +kernel
theorem dX5_append_32 : decode cX5_append 32 = .ok (.iload 4, 2) := by decide +kernel
theorem dX5_append_34 : decode cX5_append 34 = .ok (.lshr, 1) := by decide +kernel
theorem dX5_append_35 : decode cX5_append 35 = .ok (.ldc2_w 31, 3) := by decide +kernel
theorem dX5_append_38 : decode cX5_append 38 = .ok (.land, 1) := by decide +kernel
theorem dX5_append_39 : decode cX5_append 39 = .ok (.l2i, 1) := by decide +kernel
theorem dX5_append_40 : decode cX5_append 40 = .ok (.iastore, 1) := by decide +kernel
theorem dX5_append_41 : decode cX5_append 41 = .ok (.aload_n 0, 1) := by decide +kernel
theorem dX5_append_42 : decode cX5_append 42 = .ok (.dup, 1) := by decide +kernel
theorem dX5_append_43 : decode cX5_append 43 = .ok (.getfield 28, 3) := by decide +kernel
theorem dX5_append_46 : decode cX5_append 46 = .ok (.iconst 1, 1) := by decide +kernel
theorem dX5_append_47 : decode cX5_append 47 = .ok (.iadd, 1) := by decide +kernel
theorem dX5_append_48 : decode cX5_append 48 = .ok (.putfield 28, 3) := by decide +kernel
theorem dX5_append_51 : decode cX5_append 51 = .ok (.iinc 4 (-8), 3) := by decide +kernel
theorem dX5_append_54 : decode cX5_append 54 = .ok (.goto (-46), 3) := by decide +kernel
theorem dX5_append_57 : decode cX5_append 57 = .ok (.return_, 1) := by decide +kernel
set_option maxRecDepth 20000 in
theorem ggX5_understand_X5_goOn : GoodIn wsX5_understand wsX5_goOn := goodIn_r _ [10, 4, 11, 12, 13, 5, 14, 15, 16, 17, 18, 19, 9, 20, 21, 22, 23, 24, 25, 26, 27, 28, 29, 30, 31, 32, 33, 34, 35, 36, 37, 38, 39, 40, 41, 42, 43, 44, 45, 46, 47, 48, 49, 50, 51, 52, 53, 54, 55, 56, 57, 58, 59, 60, 61, 62, 63, 64, 65, 66, 67, 68, 69, 70, 71, 72, 73, 74, 75, 76, 77, 78, 79, 80, 81, 113, 114, 115, 116, 117, 118, 119, 120, 121, 122, 123, 124] (by decide +kernel) (by decide +kernel)
set_option maxRecDepth 20000 in
theorem gX5_understand_X5_goOn : GoodIn wsX5_understand (wsV RX5 42 RX5 yX5_goOn wsX5_goOn) := goodIn_app (goodIn_of _ (by decide +kernel)) ggX5_understand_X5_goOn
set_option maxRecDepth 20000 in
theorem ggX5_understand_X5_takeClause : GoodIn wsX5_understand wsX5_takeClause := goodIn_r _ [85, 5, 1, 86, 87, 88, 89, 9, 90, 2, 13, 3, 91, 92, 93, 94, 95, 81, 6, 7, 8, 10, 4, 11, 12, 14, 15, 16, 17, 18, 19, 20, 21, 22, 23, 24, 25, 26, 27, 28, 29, 30, 31, 32, 33, 34, 35, 36, 37, 38, 39, 40, 41, 42, 43, 44, 45, 46, 47, 48, 49, 50, 51, 52, 53, 54, 55, 56, 57, 58, 59, 60, 61, 62, 63, 64, 65, 66, 67, 68, 69, 70, 71, 72, 73, 74, 75, 76, 77, 78, 79, 80, 96, 97, 98, 99, 100, 101, 102, 103, 104, 105, 106, 107, 108, 109, 110, 111, 112, 113, 114, 115, 116, 117, 118, 119, 120, 121, 122, 123, 124] (by decide +kernel) (by decide +kernel)
set_option maxRecDepth 20000 in
theorem gX5_understand_X5_takeClause : GoodIn wsX5_understand (wsV RX5 48 RX5 yX5_takeClause wsX5_takeClause) := goodIn_app (goodIn_of _ (by decide +kernel)) ggX5_understand_X5_takeClause
theorem dX5_understand_0 : decode cX5_understand 0 = .ok (.aload_n 0, 1) := by decide +kernel
theorem dX5_understand_1 : decode cX5_understand 1 = .ok (.iconst 0, 1) := by decide +kernel
theorem dX5_understand_2 : decode cX5_understand 2 = .ok (.putfield 33, 3) := by decide +kernel
theorem dX5_understand_5 : decode cX5_understand 5 = .ok (.aload_n 0, 1) := by decide +kernel
theorem dX5_understand_6 : decode cX5_understand 6 = .ok (.iconst 0, 1) := by decide +kernel
theorem dX5_understand_7 : decode cX5_understand 7 = .ok (.putfield 36, 3) := by decide +kernel
theorem dX5_understand_10 : decode cX5_understand 10 = .ok (.aload_n 0, 1) := by decide +kernel
theorem dX5_understand_11 : decode cX5_understand 11 = .ok (.iconst (-1), 1) := by decide +kernel
theorem dX5_understand_12 : decode cX5_understand 12 = .ok (.putfield 9, 3) := by decide +kernel
theorem dX5_understand_15 : decode cX5_understand 15 = .ok (.aload_n 0, 1) := by decide +kernel
theorem dX5_understand_16 : decode cX5_understand 16 = .ok (.iconst 0, 1) := by decide +kernel
theorem dX5_understand_17 : decode cX5_understand 17 = .ok (.putfield 39, 3) := by decide +kernel
theorem dX5_understand_20 : decode cX5_understand 20 = .ok (.aload_n 0, 1) := by decide +kernel
theorem dX5_understand_21 : decode cX5_understand 21 = .ok (.invokevirtual 42, 3) := by decide +kernel
theorem dX5_understand_24 : decode cX5_understand 24 = .ok (.iconst 0, 1) := by decide +kernel
theorem dX5_understand_25 : decode cX5_understand 25 = .ok (.istore_n 2, 1) := by decide +kernel
theorem dX5_understand_26 : decode cX5_understand 26 = .ok (.iload_n 2, 1) := by decide +kernel
theorem dX5_understand_27 : decode cX5_understand 27 = .ok (.sipush 160, 3) := by decide +kernel
theorem dX5_understand_30 : decode cX5_understand 30 = .ok (.if_icmp .gt 42, 3) := by decide +kernel
theorem dX5_understand_33 : decode cX5_understand 33 = .ok (.aload_n 0, 1) := by decide +kernel
theorem dX5_understand_34 : decode cX5_understand 34 = .ok (.getfield 45, 3) := by decide +kernel
theorem dX5_understand_37 : decode cX5_understand 37 = .ok (.bipush 10, 2) := by decide +kernel
theorem dX5_understand_39 : decode cX5_understand 39 = .ok (.if_icmp .eq 33, 3) := by decide +kernel
theorem dX5_understand_42 : decode cX5_understand 42 = .ok (.aload_n 0, 1) := by decide +kernel
theorem dX5_understand_43 : decode cX5_understand 43 = .ok (.iload_n 1, 1) := by decide +kernel
theorem dX5_understand_44 : decode cX5_understand 44 = .ok (.invokevirtual 48, 3) := by decide +kernel
theorem dX5_understand_47 : decode cX5_understand 47 = .ok (.ifCond .ne 5, 3) := by decide +kernel
theorem dX5_understand_50 : decode cX5_understand 50 = .ok (.iconst 0, 1) := by decide +kernel
theorem dX5_understand_51 : decode cX5_understand 51 = .ok (.ireturn, 1) := by decide +kernel
theorem dX5_understand_52 : decode cX5_understand 52 = .ok (.aload_n 0, 1) := by decide +kernel
theorem dX5_understand_53 : decode cX5_understand 53 = .ok (.dup, 1) := by decide +kernel
theorem dX5_understand_54 : decode cX5_understand 54 = .ok (.getfield 33, 3) := by decide +kernel
theorem dX5_understand_57 : decode cX5_understand 57 = .ok (.iconst 1, 1) := by decide +kernel
theorem dX5_understand_58 : decode cX5_understand 58 = .ok (.iadd, 1) := by decide +kernel
theorem dX5_understand_59 : decode cX5_understand 59 = .ok (.putfield 33, 3) := by decide +kernel
theorem dX5_understand_62 : decode cX5_understand 62 = .ok (.aload_n 0, 1) := by decide +kernel
theorem dX5_understand_63 : decode cX5_understand 63 = .ok (.invokevirtual 42, 3) := by decide +kernel
theorem dX5_understand_66 : decode cX5_understand 66 = .ok (.iinc 2 1, 3) := by decide +kernel
theorem dX5_understand_69 : decode cX5_understand 69 = .ok (.goto (-43), 3) := by decide +kernel
theorem dX5_understand_72 : decode cX5_understand 72 = .ok (.iconst 1, 1) := by decide +kernel
theorem dX5_understand_73 : decode cX5_understand 73 = .ok (.ireturn, 1) := by decide +kernel
set_option maxRecDepth 20000 in
theorem ggX5_takeClause_X5_faulty : GoodIn wsX5_takeClause wsX5_faulty := goodIn_r _ [8, 9, 10, 11, 109, 110, 111, 112, 113, 114, 115, 116, 117, 118, 119, 120] (by decide +kernel) (by decide +kernel)
set_option maxRecDepth 20000 in
theorem gX5_takeClause_X5_faulty : GoodIn wsX5_takeClause (wsV RX5 52 RX5 yX5_faulty wsX5_faulty) := goodIn_app (goodIn_of _ (by decide +kernel)) ggX5_takeClause_X5_faulty
set_option maxRecDepth 20000 in
theorem ggX5_takeClause_X5_takeFirst : GoodIn wsX5_takeClause wsX5_takeFirst := goodIn_r _ [15, 16, 2, 17, 18, 19, 20, 7, 21, 22, 23, 24, 10, 1, 25, 26, 27, 28, 29, 30, 31, 32, 33, 34, 35, 36, 37, 38, 39, 40, 41, 42, 43, 44, 45, 46, 47, 48, 49, 50, 51, 52, 53, 54, 55, 56, 57, 58, 59, 60, 61, 62, 63, 64, 65, 66, 67, 68, 69, 70, 71, 72, 73, 74, 75, 76, 77, 78, 79, 80, 81, 82, 83, 84, 85, 86, 87, 88, 89, 90, 91, 92, 93, 94, 95, 4, 5, 6, 8, 9, 11, 109, 110, 111, 112, 113, 114, 115, 116, 117, 118, 119, 120] (by decide +kernel) (by decide +kernel)
set_option maxRecDepth 20000 in
theorem gX5_takeClause_X5_takeFirst : GoodIn wsX5_takeClause (wsV RX5 55 RX5 yX5_takeFirst wsX5_takeFirst) := goodIn_app (goodIn_of _ (by decide +kernel)) ggX5_takeClause_X5_takeFirst
set_option maxRecDepth 20000 in
theorem ggX5_takeClause_X5_take : GoodIn wsX5_takeClause wsX5_take := goodIn_r _ [99, 1, 18, 19, 20, 7, 21, 22, 23, 24, 10, 25, 26, 27, 28, 29, 30, 31, 32, 33, 34, 35, 36, 37, 38, 39, 40, 41, 42, 43, 44, 45, 46, 47, 48, 49, 50, 51, 52, 53, 54, 55, 56, 57, 58, 59, 60, 61, 62, 63, 64, 65, 66, 67, 68, 69, 70, 71, 72, 73, 74, 75, 76, 77, 78, 79, 80, 81, 82, 83, 84, 85, 86, 87, 88, 89, 90, 91, 17, 4, 5, 6, 8, 9, 11, 109, 110, 111, 112, 113, 114, 115, 116, 117, 118, 119, 120] (by decide +kernel) (by decide +kernel)
set_option maxRecDepth 20000 in
theorem gX5_takeClause_X5_take : GoodIn wsX5_takeClause (wsV RX5 59 RX5 yX5_take wsX5_take) := goodIn_app (goodIn_of _ (by decide +kernel)) ggX5_takeClause_X5_take
set_option maxRecDepth 20000 in
theorem ggX5_takeClause_X5_takeSecond : GoodIn wsX5_takeClause wsX5_takeSecond := goodIn_r _ [103, 104, 2, 17, 18, 19, 20, 7, 21, 22, 23, 24, 10, 1, 25, 26, 27, 28, 29, 30, 31, 32, 33, 34, 35, 36, 37, 38, 39, 40, 41, 42, 43, 44, 45, 46, 47, 48, 49, 50, 51, 52, 53, 54, 55, 56, 57, 58, 59, 60, 61, 62, 63, 64, 65, 66, 67, 68, 69, 70, 71, 72, 73, 74, 75, 76, 77, 78, 79, 80, 81, 82, 83, 84, 85, 86, 87, 88, 89, 90, 91, 92, 93, 94, 95, 4, 5, 6, 8, 9, 11, 109, 110, 111, 112, 113, 114, 115, 116, 117, 118, 119, 120] (by decide +kernel) (by decide +kernel)
set_option maxRecDepth 20000 in
theorem gX5_takeClause_X5_takeSecond : GoodIn wsX5_takeClause (wsV RX5 62 RX5 yX5_takeSecond wsX5_takeSecond) := goodIn_app (goodIn_of _ (by decide +kernel)) ggX5_takeClause_X5_takeSecond
set_option maxRecDepth 20000 in
theorem ggX5_takeClause_X5_takeRow : GoodIn wsX5_takeClause wsX5_takeRow := goodIn_r _ [108, 1, 17, 16, 2, 18, 19, 20, 7, 21, 22, 23, 24, 10, 25, 26, 27, 28, 29, 30, 31, 32, 33, 34, 35, 36, 37, 38, 39, 40, 41, 42, 43, 44, 45, 46, 47, 48, 49, 50, 51, 52, 53, 54, 55, 56, 57, 58, 59, 60, 61, 62, 63, 64, 65, 66, 67, 68, 69, 70, 71, 72, 73, 74, 75, 76, 77, 78, 79, 80, 81, 82, 83, 84, 85, 86, 87, 88, 89, 90, 91, 92, 93, 94, 95, 4, 5, 6, 8, 9, 11, 109, 110, 111, 112, 113, 114, 115, 116, 117, 118, 119, 120] (by decide +kernel) (by decide +kernel)
set_option maxRecDepth 20000 in
theorem gX5_takeClause_X5_takeRow : GoodIn wsX5_takeClause (wsV RX5 65 RX5 yX5_takeRow wsX5_takeRow) := goodIn_app (goodIn_of _ (by decide +kernel)) ggX5_takeClause_X5_takeRow
theorem dX5_takeClause_0 : decode cX5_takeClause 0 = .ok (.aload_n 0, 1) := by decide +kernel
theorem dX5_takeClause_1 : decode cX5_takeClause 1 = .ok (.getfield 45, 3) := by decide +kernel
theorem dX5_takeClause_4 : decode cX5_takeClause 4 = .ok (.iconst 5, 1) := by decide +kernel
theorem dX5_takeClause_5 : decode cX5_takeClause 5 = .ok (.if_icmp .le 9, 3) := by decide +kernel
theorem dX5_takeClause_8 : decode cX5_takeClause 8 = .ok (.aload_n 0, 1) := by decide +kernel
theorem dX5_takeClause_9 : decode cX5_takeClause 9 = .ok (.iconst 1, 1) := by decide +kernel
theorem dX5_takeClause_10 : decode cX5_takeClause 10 = .ok (.invokevirtual 52, 3) := by decide +kernel
theorem dX5_takeClause_13 : decode cX5_takeClause 13 = .ok (.ireturn, 1) := by decide +kernel
theorem dX5_takeClause_14 : decode cX5_takeClause 14 = .ok (.aload_n 0, 1) := by decide +kernel
theorem dX5_takeClause_15 : decode cX5_takeClause 15 = .ok (.getfield 33, 3) := by decide +kernel
theorem dX5_takeClause_18 : decode cX5_takeClause 18 = .ok (.bipush 12, 2) := by decide +kernel
theorem dX5_takeClause_20 : decode cX5_takeClause 20 = .ok (.if_icmp .ne 9, 3) := by decide +kernel
theorem dX5_takeClause_23 : decode cX5_takeClause 23 = .ok (.aload_n 0, 1) := by decide +kernel
theorem dX5_takeClause_24 : decode cX5_takeClause 24 = .ok (.iconst 5, 1) := by decide +kernel
theorem dX5_takeClause_25 : decode cX5_takeClause 25 = .ok (.invokevirtual 52, 3) := by decide +kernel
theorem dX5_takeClause_28 : decode cX5_takeClause 28 = .ok (.ireturn, 1) := by decide +kernel
theorem dX5_takeClause_29 : decode cX5_takeClause 29 = .ok (.aload_n 0, 1) := by decide +kernel
theorem dX5_takeClause_30 : decode cX5_takeClause 30 = .ok (.getfield 15, 3) := by decide +kernel
theorem dX5_takeClause_33 : decode cX5_takeClause 33 = .ok (.aload_n 0, 1) := by decide +kernel
theorem dX5_takeClause_34 : decode cX5_takeClause 34 = .ok (.getfield 33, 3) := by decide +kernel
theorem dX5_takeClause_37 : decode cX5_takeClause 37 = .ok (.aload_n 0, 1) := by decide +kernel
theorem dX5_takeClause_38 : decode cX5_takeClause 38 = .ok (.getfield 45, 3) := by decide +kernel
theorem dX5_takeClause_41 : decode cX5_takeClause 41 = .ok (.iastore, 1) := by decide +kernel
theorem dX5_takeClause_42 : decode cX5_takeClause 42 = .ok (.aload_n 0, 1) := by decide +kernel
theorem dX5_takeClause_43 : decode cX5_takeClause 43 = .ok (.getfield 45, 3) := by decide +kernel
theorem dX5_takeClause_46 : decode cX5_takeClause 46 = .ok (.tableswitch 178 0 4 #[34, 80, 106, 152, 152], 34) := by decide +kernel
theorem dX5_takeClause_80 : decode cX5_takeClause 80 = .ok (.aload_n 0, 1) := by decide +kernel
theorem dX5_takeClause_81 : decode cX5_takeClause 81 = .ok (.iconst 0, 1) := by decide +kernel
theorem dX5_takeClause_82 : decode cX5_takeClause 82 = .ok (.iload_n 1, 1) := by decide +kernel
theorem dX5_takeClause_83 : decode cX5_takeClause 83 = .ok (.iconst 1, 1) := by decide +kernel
theorem dX5_takeClause_84 : decode cX5_takeClause 84 = .ok (.isub, 1) := by decide +kernel
theorem dX5_takeClause_85 : decode cX5_takeClause 85 = .ok (.invokevirtual 55, 3) := by decide +kernel
theorem dX5_takeClause_88 : decode cX5_takeClause 88 = .ok (.ifCond .eq 36, 3) := by decide +kernel
theorem dX5_takeClause_91 : decode cX5_takeClause 91 = .ok (.aload_n 0, 1) := by decide +kernel
theorem dX5_takeClause_92 : decode cX5_takeClause 92 = .ok (.bipush 6, 2) := by decide +kernel
theorem dX5_takeClause_94 : decode cX5_takeClause 94 = .ok (.invokevirtual 59, 3) := by decide +kernel
theorem dX5_takeClause_97 : decode cX5_takeClause 97 = .ok (.ifCond .eq 27, 3) := by decide +kernel
theorem dX5_takeClause_100 : decode cX5_takeClause 100 = .ok (.aload_n 0, 1) := by decide +kernel
theorem dX5_takeClause_101 : decode cX5_takeClause 101 = .ok (.iconst 1, 1) := by decide +kernel
theorem dX5_takeClause_102 : decode cX5_takeClause 102 = .ok (.sipush 900, 3) := by decide +kernel
theorem dX5_takeClause_105 : decode cX5_takeClause 105 = .ok (.invokevirtual 62, 3) := by decide +kernel
theorem dX5_takeClause_108 : decode cX5_takeClause 108 = .ok (.ifCond .eq 16, 3) := by decide +kernel
theorem dX5_takeClause_111 : decode cX5_takeClause 111 = .ok (.aload_n 0, 1) := by decide +kernel
theorem dX5_takeClause_112 : decode cX5_takeClause 112 = .ok (.bipush 9, 2) := by decide +kernel
theorem dX5_takeClause_114 : decode cX5_takeClause 114 = .ok (.invokevirtual 59, 3) := by decide +kernel
theorem dX5_takeClause_117 : decode cX5_takeClause 117 = .ok (.ifCond .eq 7, 3) := by decide +kernel
theorem dX5_takeClause_120 : decode cX5_takeClause 120 = .ok (.iconst 1, 1) := by decide +kernel
theorem dX5_takeClause_121 : decode cX5_takeClause 121 = .ok (.goto 4, 3) := by decide +kernel
theorem dX5_takeClause_124 : decode cX5_takeClause 124 = .ok (.iconst 0, 1) := by decide +kernel
theorem dX5_takeClause_125 : decode cX5_takeClause 125 = .ok (.ireturn, 1) := by decide +kernel
theorem dX5_takeClause_126 : decode cX5_takeClause 126 = .ok (.aload_n 0, 1) := by decide +kernel
theorem dX5_takeClause_127 : decode cX5_takeClause 127 = .ok (.iconst 1, 1) := by decide +kernel
theorem dX5_takeClause_128 : decode cX5_takeClause 128 = .ok (.sipush 900, 3) := by decide +kernel
theorem dX5_takeClause_131 : decode cX5_takeClause 131 = .ok (.invokevirtual 55, 3) := by decide +kernel
theorem dX5_takeClause_134 : decode cX5_takeClause 134 = .ok (.ifCond .eq 16, 3) := by decide +kernel
theorem dX5_takeClause_137 : decode cX5_takeClause 137 = .ok (.aload_n 0, 1) := by decide +kernel
theorem dX5_takeClause_138 : decode cX5_takeClause 138 = .ok (.bipush 9, 2) := by decide +kernel
theorem dX5_takeClause_140 : decode cX5_takeClause 140 = .ok (.invokevirtual 59, 3) := by decide +kernel
theorem dX5_takeClause_143 : decode cX5_takeClause 143 = .ok (.ifCond .eq 7, 3) := by decide +kernel
theorem dX5_takeClause_146 : decode cX5_takeClause 146 = .ok (.iconst 1, 1) := by decide +kernel
theorem dX5_takeClause_147 : decode cX5_takeClause 147 = .ok (.goto 4, 3) := by decide +kernel
theorem dX5_takeClause_150 : decode cX5_takeClause 150 = .ok (.iconst 0, 1) := by decide +kernel
theorem dX5_takeClause_151 : decode cX5_takeClause 151 = .ok (.ireturn, 1) := by decide +kernel
theorem dX5_takeClause_152 : decode cX5_takeClause 152 = .ok (.aload_n 0, 1) := by decide +kernel
theorem dX5_takeClause_153 : decode cX5_takeClause 153 = .ok (.iconst 0, 1) := by decide +kernel
theorem dX5_takeClause_154 : decode cX5_takeClause 154 = .ok (.iload_n 1, 1) := by decide +kernel
theorem dX5_takeClause_155 : decode cX5_takeClause 155 = .ok (.iconst 1, 1) := by decide +kernel
theorem dX5_takeClause_156 : decode cX5_takeClause 156 = .ok (.isub, 1) := by decide +kernel
theorem dX5_takeClause_157 : decode cX5_takeClause 157 = .ok (.invokevirtual 55, 3) := by decide +kernel
theorem dX5_takeClause_160 : decode cX5_takeClause 160 = .ok (.ifCond .eq 36, 3) := by decide +kernel
theorem dX5_takeClause_163 : decode cX5_takeClause 163 = .ok (.aload_n 0, 1) := by decide +kernel
theorem dX5_takeClause_164 : decode cX5_takeClause 164 = .ok (.bipush 7, 2) := by decide +kernel
theorem dX5_takeClause_166 : decode cX5_takeClause 166 = .ok (.invokevirtual 59, 3) := by decide +kernel
theorem dX5_takeClause_169 : decode cX5_takeClause 169 = .ok (.ifCond .eq 27, 3) := by decide +kernel
theorem dX5_takeClause_172 : decode cX5_takeClause 172 = .ok (.aload_n 0, 1) := by decide +kernel
theorem dX5_takeClause_173 : decode cX5_takeClause 173 = .ok (.iconst 0, 1) := by decide +kernel
theorem dX5_takeClause_174 : decode cX5_takeClause 174 = .ok (.sipush 200, 3) := by decide +kernel
theorem dX5_takeClause_177 : decode cX5_takeClause 177 = .ok (.invokevirtual 62, 3) := by decide +kernel
theorem dX5_takeClause_180 : decode cX5_takeClause 180 = .ok (.ifCond .eq 16, 3) := by decide +kernel
theorem dX5_takeClause_183 : decode cX5_takeClause 183 = .ok (.aload_n 0, 1) := by decide +kernel
theorem dX5_takeClause_184 : decode cX5_takeClause 184 = .ok (.bipush 9, 2) := by decide +kernel
theorem dX5_takeClause_186 : decode cX5_takeClause 186 = .ok (.invokevirtual 59, 3) := by decide +kernel
theorem dX5_takeClause_189 : decode cX5_takeClause 189 = .ok (.ifCond .eq 7, 3) := by decide +kernel
theorem dX5_takeClause_192 : decode cX5_takeClause 192 = .ok (.iconst 1, 1) := by decide +kernel
theorem dX5_takeClause_193 : decode cX5_takeClause 193 = .ok (.goto 4, 3) := by decide +kernel
theorem dX5_takeClause_196 : decode cX5_takeClause 196 = .ok (.iconst 0, 1) := by decide +kernel
theorem dX5_takeClause_197 : decode cX5_takeClause 197 = .ok (.ireturn, 1) := by decide +kernel
theorem dX5_takeClause_198 : decode cX5_takeClause 198 = .ok (.aload_n 0, 1) := by decide +kernel
theorem dX5_takeClause_199 : decode cX5_takeClause 199 = .ok (.iconst 0, 1) := by decide +kernel
theorem dX5_takeClause_200 : decode cX5_takeClause 200 = .ok (.iload_n 1, 1) := by decide +kernel
theorem dX5_takeClause_201 : decode cX5_takeClause 201 = .ok (.iconst 1, 1) := by decide +kernel
theorem dX5_takeClause_202 : decode cX5_takeClause 202 = .ok (.isub, 1) := by decide +kernel
theorem dX5_takeClause_203 : decode cX5_takeClause 203 = .ok (.invokevirtual 55, 3) := by decide +kernel
theorem dX5_takeClause_206 : decode cX5_takeClause 206 = .ok (.ifCond .eq 16, 3) := by decide +kernel
theorem dX5_takeClause_209 : decode cX5_takeClause 209 = .ok (.aload_n 0, 1) := by decide +kernel
theorem dX5_takeClause_210 : decode cX5_takeClause 210 = .ok (.bipush 9, 2) := by decide +kernel
theorem dX5_takeClause_212 : decode cX5_takeClause 212 = .ok (.invokevirtual 59, 3) := by decide +kernel
theorem dX5_takeClause_215 : decode cX5_takeClause 215 = .ok (.ifCond .eq 7, 3) := by decide +kernel
theorem dX5_takeClause_218 : decode cX5_takeClause 218 = .ok (.iconst 1, 1) := by decide +kernel
theorem dX5_takeClause_219 : decode cX5_takeClause 219 = .ok (.goto 4, 3) := by decide +kernel
theorem dX5_takeClause_222 : decode cX5_takeClause 222 = .ok (.iconst 0, 1) := by decide +kernel
theorem dX5_takeClause_223 : decode cX5_takeClause 223 = .ok (.ireturn, 1) := by decide +kernel
theorem dX5_takeClause_224 : decode cX5_takeClause 224 = .ok (.aload_n 0, 1) := by decide +kernel
theorem dX5_takeClause_225 : decode cX5_takeClause 225 = .ok (.iload_n 1, 1) := by decide +kernel
theorem dX5_takeClause_226 : decode cX5_takeClause 226 = .ok (.invokevirtual 65, 3) := by decide +kernel
theorem dX5_takeClause_229 : decode cX5_takeClause 229 = .ok (.ireturn, 1) := by decide +kernel
set_option maxRecDepth 20000 in
theorem ggX5_takeFirst_X5_goOn : GoodIn wsX5_takeFirst wsX5_goOn := goodIn_r _ [8, 9, 10, 11, 12, 13, 14, 15, 16, 17, 18, 19, 7, 20, 21, 22, 23, 24, 25, 26, 27, 28, 29, 30, 31, 32, 33, 34, 35, 36, 37, 38, 39, 40, 41, 42, 43, 44, 45, 46, 47, 48, 49, 50, 51, 52, 53, 54, 55, 56, 57, 58, 59, 60, 61, 62, 63, 64, 65, 66, 67, 68, 69, 70, 71, 72, 73, 74, 75, 76, 77, 78, 79, 80, 3, 91, 92, 93, 94, 95, 96, 97, 98, 99, 100, 101, 102] (by decide +kernel) (by decide +kernel)
set_option maxRecDepth 20000 in
theorem gX5_takeFirst_X5_goOn : GoodIn wsX5_takeFirst (wsV RX5 42 RX5 yX5_goOn wsX5_goOn) := goodIn_app (goodIn_of _ (by decide +kernel)) ggX5_takeFirst_X5_goOn
set_option maxRecDepth 20000 in
theorem ggX5_takeFirst_X5_numberLies : GoodIn wsX5_takeFirst wsX5_numberLies := goodIn_r _ [84, 13, 3, 85, 86, 87, 7, 88, 89, 12, 90, 14, 15, 16, 91, 92, 93, 94, 95, 96, 97, 98, 99, 100, 101, 102] (by decide +kernel) (by decide +kernel)
set_option maxRecDepth 20000 in
theorem gX5_takeFirst_X5_numberLies : GoodIn wsX5_takeFirst (wsV RX5 68 RX5 yX5_numberLies wsX5_numberLies) := goodIn_app (goodIn_of _ (by decide +kernel)) ggX5_takeFirst_X5_numberLies
theorem dX5_takeFirst_0 : decode cX5_takeFirst 0 = .ok (.aload_n 0, 1) := by decide +kernel
theorem dX5_takeFirst_1 : decode cX5_takeFirst 1 = .ok (.invokevirtual 42, 3) := by decide +kernel
theorem dX5_takeFirst_4 : decode cX5_takeFirst 4 = .ok (.aload_n 0, 1) := by decide +kernel
theorem dX5_takeFirst_5 : decode cX5_takeFirst 5 = .ok (.iload_n 1, 1) := by decide +kernel
theorem dX5_takeFirst_6 : decode cX5_takeFirst 6 = .ok (.iload_n 2, 1) := by decide +kernel
theorem dX5_takeFirst_7 : decode cX5_takeFirst 7 = .ok (.invokevirtual 68, 3) := by decide +kernel
theorem dX5_takeFirst_10 : decode cX5_takeFirst 10 = .ok (.istore_n 3, 1) := by decide +kernel
theorem dX5_takeFirst_11 : decode cX5_takeFirst 11 = .ok (.aload_n 0, 1) := by decide +kernel
theorem dX5_takeFirst_12 : decode cX5_takeFirst 12 = .ok (.getfield 19, 3) := by decide +kernel
theorem dX5_takeFirst_15 : decode cX5_takeFirst 15 = .ok (.aload_n 0, 1) := by decide +kernel
theorem dX5_takeFirst_16 : decode cX5_takeFirst 16 = .ok (.getfield 33, 3) := by decide +kernel
theorem dX5_takeFirst_19 : decode cX5_takeFirst 19 = .ok (.aload_n 0, 1) := by decide +kernel
theorem dX5_takeFirst_20 : decode cX5_takeFirst 20 = .ok (.getfield 71, 3) := by decide +kernel
theorem dX5_takeFirst_23 : decode cX5_takeFirst 23 = .ok (.iastore, 1) := by decide +kernel
theorem dX5_takeFirst_24 : decode cX5_takeFirst 24 = .ok (.iload_n 3, 1) := by decide +kernel
theorem dX5_takeFirst_25 : decode cX5_takeFirst 25 = .ok (.ireturn, 1) := by decide +kernel
set_option maxRecDepth 20000 in
theorem ggX5_takeSecond_X5_goOn : GoodIn wsX5_takeSecond wsX5_goOn := goodIn_r _ [8, 9, 10, 11, 12, 13, 14, 15, 16, 17, 18, 19, 7, 20, 21, 22, 23, 24, 25, 26, 27, 28, 29, 30, 31, 32, 33, 34, 35, 36, 37, 38, 39, 40, 41, 42, 43, 44, 45, 46, 47, 48, 49, 50, 51, 52, 53, 54, 55, 56, 57, 58, 59, 60, 61, 62, 63, 64, 65, 66, 67, 68, 69, 70, 71, 72, 73, 74, 75, 76, 77, 78, 79, 80, 3, 91, 92, 93, 94, 95, 96, 97, 98, 99, 100, 101, 102] (by decide +kernel) (by decide +kernel)
set_option maxRecDepth 20000 in
theorem gX5_takeSecond_X5_goOn : GoodIn wsX5_takeSecond (wsV RX5 42 RX5 yX5_goOn wsX5_goOn) := goodIn_app (goodIn_of _ (by decide +kernel)) ggX5_takeSecond_X5_goOn
set_option maxRecDepth 20000 in
theorem ggX5_takeSecond_X5_numberLies : GoodIn wsX5_takeSecond wsX5_numberLies := goodIn_r _ [84, 13, 3, 85, 86, 87, 7, 88, 89, 12, 90, 14, 15, 16, 91, 92, 93, 94, 95, 96, 97, 98, 99, 100, 101, 102] (by decide +kernel) (by decide +kernel)
set_option maxRecDepth 20000 in
theorem gX5_takeSecond_X5_numberLies : GoodIn wsX5_takeSecond (wsV RX5 68 RX5 yX5_numberLies wsX5_numberLies) := goodIn_app (goodIn_of _ (by decide +kernel)) ggX5_takeSecond_X5_numberLies
theorem dX5_takeSecond_0 : decode cX5_takeSecond 0 = .ok (.aload_n 0, 1) := by decide +kernel
theorem dX5_takeSecond_1 : decode cX5_takeSecond 1 = .ok (.invokevirtual 42, 3) := by decide +kernel
theorem dX5_takeSecond_4 : decode cX5_takeSecond 4 = .ok (.aload_n 0, 1) := by decide +kernel
theorem dX5_takeSecond_5 : decode cX5_takeSecond 5 = .ok (.iload_n 1, 1) := by decide +kernel
theorem dX5_takeSecond_6 : decode cX5_takeSecond 6 = .ok (.iload_n 2, 1) := by decide +kernel
theorem dX5_takeSecond_7 : decode cX5_takeSecond 7 = .ok (.invokevirtual 68, 3) := by decide +kernel
theorem dX5_takeSecond_10 : decode cX5_takeSecond 10 = .ok (.istore_n 3, 1) := by decide +kernel
theorem dX5_takeSecond_11 : decode cX5_takeSecond 11 = .ok (.aload_n 0, 1) := by decide +kernel
theorem dX5_takeSecond_12 : decode cX5_takeSecond 12 = .ok (.getfield 22, 3) := by decide +kernel
theorem dX5_takeSecond_15 : decode cX5_takeSecond 15 = .ok (.aload_n 0, 1) := by decide +kernel
theorem dX5_takeSecond_16 : decode cX5_takeSecond 16 = .ok (.getfield 33, 3) := by decide +kernel
theorem dX5_takeSecond_19 : decode cX5_takeSecond 19 = .ok (.aload_n 0, 1) := by decide +kernel
theorem dX5_takeSecond_20 : decode cX5_takeSecond 20 = .ok (.getfield 71, 3) := by decide +kernel
theorem dX5_takeSecond_23 : decode cX5_takeSecond 23 = .ok (.iastore, 1) := by decide +kernel
theorem dX5_takeSecond_24 : decode cX5_takeSecond 24 = .ok (.iload_n 3, 1) := by decide +kernel
theorem dX5_takeSecond_25 : decode cX5_takeSecond 25 = .ok (.ireturn, 1) := by decide +kernel
set_option maxRecDepth 20000 in
theorem ggX5_take_X5_goOn : GoodIn wsX5_take wsX5_goOn := goodIn_r _ [6, 7, 8, 9, 10, 1, 11, 12, 13, 14, 15, 16, 5, 17, 18, 19, 20, 21, 22, 23, 24, 25, 26, 27, 28, 29, 30, 31, 32, 33, 34, 35, 36, 37, 38, 39, 40, 41, 42, 43, 44, 45, 46, 47, 48, 49, 50, 51, 52, 53, 54, 55, 56, 57, 58, 59, 60, 61, 62, 63, 64, 65, 66, 67, 68, 69, 70, 71, 72, 73, 74, 75, 76, 77, 78, 85, 86, 87, 88, 89, 90, 91, 92, 93, 94, 95, 96] (by decide +kernel) (by decide +kernel)
set_option maxRecDepth 20000 in
theorem gX5_take_X5_goOn : GoodIn wsX5_take (wsV RX5 42 RX5 yX5_goOn wsX5_goOn) := goodIn_app (goodIn_of _ (by decide +kernel)) ggX5_take_X5_goOn
set_option maxRecDepth 20000 in
theorem ggX5_take_X5_faulty : GoodIn wsX5_take wsX5_faulty := goodIn_r _ [82, 83, 10, 84, 85, 86, 87, 88, 89, 90, 91, 92, 93, 94, 95, 96] (by decide +kernel) (by decide +kernel)
set_option maxRecDepth 20000 in
theorem gX5_take_X5_faulty : GoodIn wsX5_take (wsV RX5 52 RX5 yX5_faulty wsX5_faulty) := goodIn_app (goodIn_of _ (by decide +kernel)) ggX5_take_X5_faulty
theorem dX5_take_0 : decode cX5_take 0 = .ok (.aload_n 0, 1) := by decide +kernel
theorem dX5_take_1 : decode cX5_take 1 = .ok (.invokevirtual 42, 3) := by decide +kernel
theorem dX5_take_4 : decode cX5_take 4 = .ok (.aload_n 0, 1) := by decide +kernel
theorem dX5_take_5 : decode cX5_take 5 = .ok (.getfield 45, 3) := by decide +kernel
theorem dX5_take_8 : decode cX5_take 8 = .ok (.iload_n 1, 1) := by decide +kernel
theorem dX5_take_9 : decode cX5_take 9 = .ok (.if_icmp .eq 11, 3) := by decide +kernel
theorem dX5_take_12 : decode cX5_take 12 = .ok (.aload_n 0, 1) := by decide +kernel
theorem dX5_take_13 : decode cX5_take 13 = .ok (.iconst 1, 1) := by decide +kernel
theorem dX5_take_14 : decode cX5_take 14 = .ok (.invokevirtual 52, 3) := by decide +kernel
theorem dX5_take_17 : decode cX5_take 17 = .ok (.ifCond .eq 7, 3) := by decide +kernel
theorem dX5_take_20 : decode cX5_take 20 = .ok (.iconst 1, 1) := by decide +kernel
theorem dX5_take_21 : decode cX5_take 21 = .ok (.goto 4, 3) := by decide +kernel
theorem dX5_take_24 : decode cX5_take 24 = .ok (.iconst 0, 1) := by decide +kernel
theorem dX5_take_25 : decode cX5_take 25 = .ok (.ireturn, 1) := by decide +kernel
set_option maxRecDepth 20000 in
theorem ggX5_takeRow_X5_goOn : GoodIn wsX5_takeRow wsX5_goOn := goodIn_r _ [9, 10, 11, 12, 13, 1, 14, 15, 16, 17, 18, 19, 8, 20, 21, 22, 23, 24, 25, 26, 27, 28, 29, 30, 31, 32, 33, 34, 35, 36, 37, 38, 39, 40, 41, 42, 43, 44, 45, 46, 47, 48, 49, 50, 51, 52, 53, 54, 55, 56, 57, 58, 59, 60, 61, 62, 63, 64, 65, 66, 67, 68, 69, 70, 71, 72, 73, 74, 75, 76, 77, 78, 79, 80, 2, 91, 92, 93, 94, 95, 96, 97, 98, 99, 100, 101, 102] (by decide +kernel) (by decide +kernel)
set_option maxRecDepth 20000 in
theorem gX5_takeRow_X5_goOn : GoodIn wsX5_takeRow (wsV RX5 42 RX5 yX5_goOn wsX5_goOn) := goodIn_app (goodIn_of _ (by decide +kernel)) ggX5_takeRow_X5_goOn
set_option maxRecDepth 20000 in
theorem ggX5_takeRow_X5_numberLies : GoodIn wsX5_takeRow wsX5_numberLies := goodIn_r _ [84, 1, 2, 85, 86, 87, 8, 88, 89, 13, 90, 14, 15, 16, 91, 92, 93, 94, 95, 96, 97, 98, 99, 100, 101, 102] (by decide +kernel) (by decide +kernel)
set_option maxRecDepth 20000 in
theorem gX5_takeRow_X5_numberLies : GoodIn wsX5_takeRow (wsV RX5 68 RX5 yX5_numberLies wsX5_numberLies) := goodIn_app (goodIn_of _ (by decide +kernel)) ggX5_takeRow_X5_numberLies
set_option maxRecDepth 20000 in
theorem ggX5_takeRow_X5_faulty : GoodIn wsX5_takeRow wsX5_faulty := goodIn_r _ [88, 89, 13, 90, 91, 92, 93, 94, 95, 96, 97, 98, 99, 100, 101, 102] (by decide +kernel) (by decide +kernel)
set_option maxRecDepth 20000 in
theorem gX5_takeRow_X5_faulty : GoodIn wsX5_takeRow (wsV RX5 52 RX5 yX5_faulty wsX5_faulty) := goodIn_app (goodIn_of _ (by decide +kernel)) ggX5_takeRow_X5_faulty
theorem dX5_takeRow_0 : decode cX5_takeRow 0 = .ok (.iconst 0, 1) := by decide +kernel
theorem dX5_takeRow_1 : decode cX5_takeRow 1 = .ok (.istore_n 2, 1) := by decide +kernel
theorem dX5_takeRow_2 : decode cX5_takeRow 2 = .ok (.iconst 0, 1) := by decide +kernel
theorem dX5_takeRow_3 : decode cX5_takeRow 3 = .ok (.istore_n 3, 1) := by decide +kernel
theorem dX5_takeRow_4 : decode cX5_takeRow 4 = .ok (.aload_n 0, 1) := by decide +kernel
theorem dX5_takeRow_5 : decode cX5_takeRow 5 = .ok (.invokevirtual 42, 3) := by decide +kernel
theorem dX5_takeRow_8 : decode cX5_takeRow 8 = .ok (.iconst 0, 1) := by decide +kernel
theorem dX5_takeRow_9 : decode cX5_takeRow 9 = .ok (.istore 4, 2) := by decide +kernel
theorem dX5_takeRow_11 : decode cX5_takeRow 11 = .ok (.iload 4, 2) := by decide +kernel
theorem dX5_takeRow_13 : decode cX5_takeRow 13 = .ok (.iload_n 1, 1) := by decide +kernel
theorem dX5_takeRow_14 : decode cX5_takeRow 14 = .ok (.if_icmp .gt 79, 3) := by decide +kernel
theorem dX5_takeRow_17 : decode cX5_takeRow 17 = .ok (.iload 4, 2) := by decide +kernel
theorem dX5_takeRow_19 : decode cX5_takeRow 19 = .ok (.ifCond .le 15, 3) := by decide +kernel
theorem dX5_takeRow_22 : decode cX5_takeRow 22 = .ok (.aload_n 0, 1) := by decide +kernel
theorem dX5_takeRow_23 : decode cX5_takeRow 23 = .ok (.getfield 45, 3) := by decide +kernel
theorem dX5_takeRow_26 : decode cX5_takeRow 26 = .ok (.bipush 9, 2) := by decide +kernel
theorem dX5_takeRow_28 : decode cX5_takeRow 28 = .ok (.if_icmp .ne 6, 3) := by decide +kernel
theorem dX5_takeRow_31 : decode cX5_takeRow 31 = .ok (.goto 62, 3) := by decide +kernel
theorem dX5_takeRow_34 : decode cX5_takeRow 34 = .ok (.aload_n 0, 1) := by decide +kernel
theorem dX5_takeRow_35 : decode cX5_takeRow 35 = .ok (.iconst 0, 1) := by decide +kernel
theorem dX5_takeRow_36 : decode cX5_takeRow 36 = .ok (.iload_n 1, 1) := by decide +kernel
theorem dX5_takeRow_37 : decode cX5_takeRow 37 = .ok (.iconst 1, 1) := by decide +kernel
theorem dX5_takeRow_38 : decode cX5_takeRow 38 = .ok (.isub, 1) := by decide +kernel
theorem dX5_takeRow_39 : decode cX5_takeRow 39 = .ok (.invokevirtual 68, 3) := by decide +kernel
theorem dX5_takeRow_42 : decode cX5_takeRow 42 = .ok (.ifCond .ne 5, 3) := by decide +kernel
theorem dX5_takeRow_45 : decode cX5_takeRow 45 = .ok (.iconst 0, 1) := by decide +kernel
theorem dX5_takeRow_46 : decode cX5_takeRow 46 = .ok (.ireturn, 1) := by decide +kernel
theorem dX5_takeRow_47 : decode cX5_takeRow 47 = .ok (.iload_n 2, 1) := by decide +kernel
theorem dX5_takeRow_48 : decode cX5_takeRow 48 = .ok (.aload_n 0, 1) := by decide +kernel
theorem dX5_takeRow_49 : decode cX5_takeRow 49 = .ok (.getfield 71, 3) := by decide +kernel
theorem dX5_takeRow_52 : decode cX5_takeRow 52 = .ok (.ishr, 1) := by decide +kernel
theorem dX5_takeRow_53 : decode cX5_takeRow 53 = .ok (.iconst 1, 1) := by decide +kernel
theorem dX5_takeRow_54 : decode cX5_takeRow 54 = .ok (.iand, 1) := by decide +kernel
theorem dX5_takeRow_55 : decode cX5_takeRow 55 = .ok (.ifCond .eq 9, 3) := by decide +kernel
theorem dX5_takeRow_58 : decode cX5_takeRow 58 = .ok (.aload_n 0, 1) := by decide +kernel
theorem dX5_takeRow_59 : decode cX5_takeRow 59 = .ok (.iconst 3, 1) := by decide +kernel
theorem dX5_takeRow_60 : decode cX5_takeRow 60 = .ok (.invokevirtual 52, 3) := by decide +kernel
theorem dX5_takeRow_63 : decode cX5_takeRow 63 = .ok (.ireturn, 1) := by decide +kernel
theorem dX5_takeRow_64 : decode cX5_takeRow 64 = .ok (.iload_n 2, 1) := by decide +kernel
theorem dX5_takeRow_65 : decode cX5_takeRow 65 = .ok (.iconst 1, 1) := by decide +kernel
theorem dX5_takeRow_66 : decode cX5_takeRow 66 = .ok (.aload_n 0, 1) := by decide +kernel
theorem dX5_takeRow_67 : decode cX5_takeRow 67 = .ok (.getfield 71, 3) := by decide +kernel
theorem dX5_takeRow_70 : decode cX5_takeRow 70 = .ok (.ishl, 1) := by decide +kernel
theorem dX5_takeRow_71 : decode cX5_takeRow 71 = .ok (.ior, 1) := by decide +kernel
theorem dX5_takeRow_72 : decode cX5_takeRow 72 = .ok (.istore_n 2, 1) := by decide +kernel
theorem dX5_takeRow_73 : decode cX5_takeRow 73 = .ok (.bipush 10, 2) := by decide +kernel
theorem dX5_takeRow_75 : decode cX5_takeRow 75 = .ok (.iload_n 3, 1) := by decide +kernel
theorem dX5_takeRow_76 : decode cX5_takeRow 76 = .ok (.imul, 1) := by decide +kernel
theorem dX5_takeRow_77 : decode cX5_takeRow 77 = .ok (.aload_n 0, 1) := by decide +kernel
theorem dX5_takeRow_78 : decode cX5_takeRow 78 = .ok (.getfield 71, 3) := by decide +kernel
theorem dX5_takeRow_81 : decode cX5_takeRow 81 = .ok (.iadd, 1) := by decide +kernel
theorem dX5_takeRow_82 : decode cX5_takeRow 82 = .ok (.istore_n 3, 1) := by decide +kernel
theorem dX5_takeRow_83 : decode cX5_takeRow 83 = .ok (.aload_n 0, 1) := by decide +kernel
theorem dX5_takeRow_84 : decode cX5_takeRow 84 = .ok (.invokevirtual 42, 3) := by decide +kernel
theorem dX5_takeRow_87 : decode cX5_takeRow 87 = .ok (.iinc 4 1, 3) := by decide +kernel
theorem dX5_takeRow_90 : decode cX5_takeRow 90 = .ok (.goto (-79), 3) := by decide +kernel
theorem dX5_takeRow_93 : decode cX5_takeRow 93 = .ok (.aload_n 0, 1) := by decide +kernel
theorem dX5_takeRow_94 : decode cX5_takeRow 94 = .ok (.getfield 19, 3) := by decide +kernel
theorem dX5_takeRow_97 : decode cX5_takeRow 97 = .ok (.aload_n 0, 1) := by decide +kernel
theorem dX5_takeRow_98 : decode cX5_takeRow 98 = .ok (.getfield 33, 3) := by decide +kernel
theorem dX5_takeRow_101 : decode cX5_takeRow 101 = .ok (.iload_n 3, 1) := by decide +kernel
theorem dX5_takeRow_102 : decode cX5_takeRow 102 = .ok (.iastore, 1) := by decide +kernel
theorem dX5_takeRow_103 : decode cX5_takeRow 103 = .ok (.iload_n 2, 1) := by decide +kernel
theorem dX5_takeRow_104 : decode cX5_takeRow 104 = .ok (.iconst 1, 1) := by decide +kernel
theorem dX5_takeRow_105 : decode cX5_takeRow 105 = .ok (.iload_n 1, 1) := by decide +kernel
theorem dX5_takeRow_106 : decode cX5_takeRow 106 = .ok (.ishl, 1) := by decide +kernel
theorem dX5_takeRow_107 : decode cX5_takeRow 107 = .ok (.iconst 1, 1) := by decide +kernel
theorem dX5_takeRow_108 : decode cX5_takeRow 108 = .ok (.isub, 1) := by decide +kernel
theorem dX5_takeRow_109 : decode cX5_takeRow 109 = .ok (.if_icmp .eq 11, 3) := by decide +kernel
theorem dX5_takeRow_112 : decode cX5_takeRow 112 = .ok (.aload_n 0, 1) := by decide +kernel
theorem dX5_takeRow_113 : decode cX5_takeRow 113 = .ok (.iconst 4, 1) := by decide +kernel
theorem dX5_takeRow_114 : decode cX5_takeRow 114 = .ok (.invokevirtual 52, 3) := by decide +kernel
theorem dX5_takeRow_117 : decode cX5_takeRow 117 = .ok (.ifCond .eq 7, 3) := by decide +kernel
theorem dX5_takeRow_120 : decode cX5_takeRow 120 = .ok (.iconst 1, 1) := by decide +kernel
theorem dX5_takeRow_121 : decode cX5_takeRow 121 = .ok (.goto 4, 3) := by decide +kernel
theorem dX5_takeRow_124 : decode cX5_takeRow 124 = .ok (.iconst 0, 1) := by decide +kernel
theorem dX5_takeRow_125 : decode cX5_takeRow 125 = .ok (.ireturn, 1) := by decide +kernel
set_option maxRecDepth 20000 in
theorem ggX5_numberLies_X5_faulty : GoodIn wsX5_numberLies wsX5_faulty := goodIn_r _ [7, 8, 9, 10, 14, 15, 16, 17, 18, 19, 20, 21, 22, 23, 24, 25] (by decide +kernel) (by decide +kernel)
set_option maxRecDepth 20000 in
theorem gX5_numberLies_X5_faulty : GoodIn wsX5_numberLies (wsV RX5 52 RX5 yX5_faulty wsX5_faulty) := goodIn_app (goodIn_of _ (by decide +kernel)) ggX5_numberLies_X5_faulty
set_option maxRecDepth 20000 in
theorem ggX5_numberLies_X7_within : GoodIn wsX5_numberLies wsX7_within := goodIn_r _ [13] (by decide +kernel) (by decide +kernel)
set_option maxRecDepth 20000 in
theorem gX5_numberLies_X7_within_n74 : GoodIn wsX5_numberLies (wsX7_within) := ggX5_numberLies_X7_within
theorem dX5_numberLies_0 : decode cX5_numberLies 0 = .ok (.aload_n 0, 1) := by decide +kernel
theorem dX5_numberLies_1 : decode cX5_numberLies 1 = .ok (.getfield 45, 3) := by decide +kernel
theorem dX5_numberLies_4 : decode cX5_numberLies 4 = .ok (.bipush 8, 2) := by decide +kernel
theorem dX5_numberLies_6 : decode cX5_numberLies 6 = .ok (.if_icmp .eq 9, 3) := by decide +kernel
theorem dX5_numberLies_9 : decode cX5_numberLies 9 = .ok (.aload_n 0, 1) := by decide +kernel
theorem dX5_numberLies_10 : decode cX5_numberLies 10 = .ok (.iconst 1, 1) := by decide +kernel
theorem dX5_numberLies_11 : decode cX5_numberLies 11 = .ok (.invokevirtual 52, 3) := by decide +kernel
theorem dX5_numberLies_14 : decode cX5_numberLies 14 = .ok (.ireturn, 1) := by decide +kernel
theorem dX5_numberLies_15 : decode cX5_numberLies 15 = .ok (.aload_n 0, 1) := by decide +kernel
theorem dX5_numberLies_16 : decode cX5_numberLies 16 = .ok (.getfield 71, 3) := by decide +kernel
theorem dX5_numberLies_19 : decode cX5_numberLies 19 = .ok (.iload_n 1, 1) := by decide +kernel
theorem dX5_numberLies_20 : decode cX5_numberLies 20 = .ok (.iload_n 2, 1) := by decide +kernel
theorem dX5_numberLies_21 : decode cX5_numberLies 21 = .ok (.invokestatic 74, 3) := by decide +kernel
theorem dX5_numberLies_24 : decode cX5_numberLies 24 = .ok (.ifCond .ne 11, 3) := by decide +kernel
theorem dX5_numberLies_27 : decode cX5_numberLies 27 = .ok (.aload_n 0, 1) := by decide +kernel
theorem dX5_numberLies_28 : decode cX5_numberLies 28 = .ok (.iconst 2, 1) := by decide +kernel
theorem dX5_numberLies_29 : decode cX5_numberLies 29 = .ok (.invokevirtual 52, 3) := by decide +kernel
theorem dX5_numberLies_32 : decode cX5_numberLies 32 = .ok (.ifCond .eq 7, 3) := by decide +kernel
theorem dX5_numberLies_35 : decode cX5_numberLies 35 = .ok (.iconst 1, 1) := by decide +kernel
theorem dX5_numberLies_36 : decode cX5_numberLies 36 = .ok (.goto 4, 3) := by decide +kernel
theorem dX5_numberLies_39 : decode cX5_numberLies 39 = .ok (.iconst 0, 1) := by decide +kernel
theorem dX5_numberLies_40 : decode cX5_numberLies 40 = .ok (.ireturn, 1) := by decide +kernel
theorem dX5_faulty_0 : decode cX5_faulty 0 = .ok (.aload_n 0, 1) := by decide +kernel
theorem dX5_faulty_1 : decode cX5_faulty 1 = .ok (.iload_n 1, 1) := by decide +kernel
theorem dX5_faulty_2 : decode cX5_faulty 2 = .ok (.putfield 36, 3) := by decide +kernel
theorem dX5_faulty_5 : decode cX5_faulty 5 = .ok (.aload_n 0, 1) := by decide +kernel
theorem dX5_faulty_6 : decode cX5_faulty 6 = .ok (.aload_n 0, 1) := by decide +kernel
theorem dX5_faulty_7 : decode cX5_faulty 7 = .ok (.getfield 78, 3) := by decide +kernel
theorem dX5_faulty_10 : decode cX5_faulty 10 = .ok (.putfield 9, 3) := by decide +kernel
theorem dX5_faulty_13 : decode cX5_faulty 13 = .ok (.iconst 0, 1) := by decide +kernel
theorem dX5_faulty_14 : decode cX5_faulty 14 = .ok (.ireturn, 1) := by decide +kernel
set_option maxRecDepth 20000 in
theorem ggX5_goOn_X7_within : GoodIn wsX5_goOn wsX7_within := goodIn_r _ [8] (by decide +kernel) (by decide +kernel)
set_option maxRecDepth 20000 in
theorem gX5_goOn_X7_within_n74 : GoodIn wsX5_goOn (wsX7_within) := ggX5_goOn_X7_within
set_option maxRecDepth 20000 in
theorem ggX5_goOn_X5_wordFrom : GoodIn wsX5_goOn wsX5_wordFrom := goodIn_r _ [13, 14, 15, 12, 16, 17, 18, 19, 20, 1, 3, 21, 22, 23, 24, 25, 26, 27, 28, 29, 30, 31, 32, 33, 34, 35, 36, 37, 38, 39, 40, 41, 42, 43, 44, 45, 46, 47, 48, 49, 50, 51, 52, 53, 54, 55, 56, 57, 58, 59, 60, 61, 62, 63, 64, 65, 66, 67, 68, 69, 75, 76, 77, 78, 79, 80, 81, 82, 83, 84, 85, 86] (by decide +kernel) (by decide +kernel)
set_option maxRecDepth 20000 in
theorem gX5_goOn_X5_wordFrom : GoodIn wsX5_goOn (wsV RX5 81 RX5 yX5_wordFrom wsX5_wordFrom) := goodIn_app (goodIn_of _ (by decide +kernel)) ggX5_goOn_X5_wordFrom
set_option maxRecDepth 20000 in
theorem ggX5_goOn_X5_goOverNumber : GoodIn wsX5_goOn wsX5_goOverNumber := goodIn_r _ [73, 74, 1, 2, 3, 4, 6, 7, 8, 75, 76, 77, 78, 79, 80, 81, 82, 83, 84, 85, 86] (by decide +kernel) (by decide +kernel)
set_option maxRecDepth 20000 in
theorem gX5_goOn_X5_goOverNumber : GoodIn wsX5_goOn (wsV RX5 85 RX5 yX5_goOverNumber wsX5_goOverNumber) := goodIn_app (goodIn_of _ (by decide +kernel)) ggX5_goOn_X5_goOverNumber
theorem dX5_goOn_0 : decode cX5_goOn 0 = .ok (.aload_n 0, 1) := by decide +kernel
theorem dX5_goOn_1 : decode cX5_goOn 1 = .ok (.getfield 39, 3) := by decide +kernel
theorem dX5_goOn_4 : decode cX5_goOn 4 = .ok (.aload_n 0, 1) := by decide +kernel
theorem dX5_goOn_5 : decode cX5_goOn 5 = .ok (.getfield 28, 3) := by decide +kernel
theorem dX5_goOn_8 : decode cX5_goOn 8 = .ok (.if_icmp .ge 30, 3) := by decide +kernel
theorem dX5_goOn_11 : decode cX5_goOn 11 = .ok (.aload_n 0, 1) := by decide +kernel
theorem dX5_goOn_12 : decode cX5_goOn 12 = .ok (.getfield 25, 3) := by decide +kernel
theorem dX5_goOn_15 : decode cX5_goOn 15 = .ok (.aload_n 0, 1) := by decide +kernel
theorem dX5_goOn_16 : decode cX5_goOn 16 = .ok (.getfield 39, 3) := by decide +kernel
theorem dX5_goOn_19 : decode cX5_goOn 19 = .ok (.iaload, 1) := by decide +kernel
theorem dX5_goOn_20 : decode cX5_goOn 20 = .ok (.bipush 32, 2) := by decide +kernel
theorem dX5_goOn_22 : decode cX5_goOn 22 = .ok (.if_icmp .ne 16, 3) := by decide +kernel
theorem dX5_goOn_25 : decode cX5_goOn 25 = .ok (.aload_n 0, 1) := by decide +kernel
theorem dX5_goOn_26 : decode cX5_goOn 26 = .ok (.dup, 1) := by decide +kernel
theorem dX5_goOn_27 : decode cX5_goOn 27 = .ok (.getfield 39, 3) := by decide +kernel
theorem dX5_goOn_30 : decode cX5_goOn 30 = .ok (.iconst 1, 1) := by decide +kernel
theorem dX5_goOn_31 : decode cX5_goOn 31 = .ok (.iadd, 1) := by decide +kernel
theorem dX5_goOn_32 : decode cX5_goOn 32 = .ok (.putfield 39, 3) := by decide +kernel
theorem dX5_goOn_35 : decode cX5_goOn 35 = .ok (.goto (-35), 3) := by decide +kernel
theorem dX5_goOn_38 : decode cX5_goOn 38 = .ok (.aload_n 0, 1) := by decide +kernel
theorem dX5_goOn_39 : decode cX5_goOn 39 = .ok (.aload_n 0, 1) := by decide +kernel
theorem dX5_goOn_40 : decode cX5_goOn 40 = .ok (.getfield 39, 3) := by decide +kernel
theorem dX5_goOn_43 : decode cX5_goOn 43 = .ok (.putfield 78, 3) := by decide +kernel
theorem dX5_goOn_46 : decode cX5_goOn 46 = .ok (.aload_n 0, 1) := by decide +kernel
theorem dX5_goOn_47 : decode cX5_goOn 47 = .ok (.getfield 39, 3) := by decide +kernel
theorem dX5_goOn_50 : decode cX5_goOn 50 = .ok (.aload_n 0, 1) := by decide +kernel
theorem dX5_goOn_51 : decode cX5_goOn 51 = .ok (.getfield 28, 3) := by decide +kernel
theorem dX5_goOn_54 : decode cX5_goOn 54 = .ok (.if_icmp .lt 12, 3) := by decide +kernel
theorem dX5_goOn_57 : decode cX5_goOn 57 = .ok (.aload_n 0, 1) := by decide +kernel
theorem dX5_goOn_58 : decode cX5_goOn 58 = .ok (.bipush 10, 2) := by decide +kernel
theorem dX5_goOn_60 : decode cX5_goOn 60 = .ok (.putfield 45, 3) := by decide +kernel
theorem dX5_goOn_63 : decode cX5_goOn 63 = .ok (.goto 147, 3) := by decide +kernel
theorem dX5_goOn_66 : decode cX5_goOn 66 = .ok (.aload_n 0, 1) := by decide +kernel
theorem dX5_goOn_67 : decode cX5_goOn 67 = .ok (.getfield 25, 3) := by decide +kernel
theorem dX5_goOn_70 : decode cX5_goOn 70 = .ok (.aload_n 0, 1) := by decide +kernel
theorem dX5_goOn_71 : decode cX5_goOn 71 = .ok (.getfield 39, 3) := by decide +kernel
theorem dX5_goOn_74 : decode cX5_goOn 74 = .ok (.iaload, 1) := by decide +kernel
theorem dX5_goOn_75 : decode cX5_goOn 75 = .ok (.bipush 97, 2) := by decide +kernel
theorem dX5_goOn_77 : decode cX5_goOn 77 = .ok (.bipush 122, 2) := by decide +kernel
theorem dX5_goOn_79 : decode cX5_goOn 79 = .ok (.invokestatic 74, 3) := by decide +kernel
theorem dX5_goOn_82 : decode cX5_goOn 82 = .ok (.ifCond .eq 61, 3) := by decide +kernel
theorem dX5_goOn_85 : decode cX5_goOn 85 = .ok (.aload_n 0, 1) := by decide +kernel
theorem dX5_goOn_86 : decode cX5_goOn 86 = .ok (.getfield 39, 3) := by decide +kernel
theorem dX5_goOn_89 : decode cX5_goOn 89 = .ok (.aload_n 0, 1) := by decide +kernel
theorem dX5_goOn_90 : decode cX5_goOn 90 = .ok (.getfield 28, 3) := by decide +kernel
theorem dX5_goOn_93 : decode cX5_goOn 93 = .ok (.if_icmp .ge 35, 3) := by decide +kernel
theorem dX5_goOn_96 : decode cX5_goOn 96 = .ok (.aload_n 0, 1) := by decide +kernel
theorem dX5_goOn_97 : decode cX5_goOn 97 = .ok (.getfield 25, 3) := by decide +kernel
theorem dX5_goOn_100 : decode cX5_goOn 100 = .ok (.aload_n 0, 1) := by decide +kernel
theorem dX5_goOn_101 : decode cX5_goOn 101 = .ok (.getfield 39, 3) := by decide +kernel
theorem dX5_goOn_104 : decode cX5_goOn 104 = .ok (.iaload, 1) := by decide +kernel
theorem dX5_goOn_105 : decode cX5_goOn 105 = .ok (.bipush 97, 2) := by decide +kernel
theorem dX5_goOn_107 : decode cX5_goOn 107 = .ok (.bipush 122, 2) := by decide +kernel
theorem dX5_goOn_109 : decode cX5_goOn 109 = .ok (.invokestatic 74, 3) := by decide +kernel
theorem dX5_goOn_112 : decode cX5_goOn 112 = .ok (.ifCond .eq 16, 3) := by decide +kernel
theorem dX5_goOn_115 : decode cX5_goOn 115 = .ok (.aload_n 0, 1) := by decide +kernel
theorem dX5_goOn_116 : decode cX5_goOn 116 = .ok (.dup, 1) := by decide +kernel
theorem dX5_goOn_117 : decode cX5_goOn 117 = .ok (.getfield 39, 3) := by decide +kernel
theorem dX5_goOn_120 : decode cX5_goOn 120 = .ok (.iconst 1, 1) := by decide +kernel
theorem dX5_goOn_121 : decode cX5_goOn 121 = .ok (.iadd, 1) := by decide +kernel
theorem dX5_goOn_122 : decode cX5_goOn 122 = .ok (.putfield 39, 3) := by decide +kernel
theorem dX5_goOn_125 : decode cX5_goOn 125 = .ok (.goto (-40), 3) := by decide +kernel
theorem dX5_goOn_128 : decode cX5_goOn 128 = .ok (.aload_n 0, 1) := by decide +kernel
theorem dX5_goOn_129 : decode cX5_goOn 129 = .ok (.aload_n 0, 1) := by decide +kernel
theorem dX5_goOn_130 : decode cX5_goOn 130 = .ok (.aload_n 0, 1) := by decide +kernel
theorem dX5_goOn_131 : decode cX5_goOn 131 = .ok (.getfield 78, 3) := by decide +kernel
theorem dX5_goOn_134 : decode cX5_goOn 134 = .ok (.invokevirtual 81, 3) := by decide +kernel
theorem dX5_goOn_137 : decode cX5_goOn 137 = .ok (.putfield 45, 3) := by decide +kernel
theorem dX5_goOn_140 : decode cX5_goOn 140 = .ok (.goto 70, 3) := by decide +kernel
theorem dX5_goOn_143 : decode cX5_goOn 143 = .ok (.aload_n 0, 1) := by decide +kernel
theorem dX5_goOn_144 : decode cX5_goOn 144 = .ok (.getfield 25, 3) := by decide +kernel
theorem dX5_goOn_147 : decode cX5_goOn 147 = .ok (.aload_n 0, 1) := by decide +kernel
theorem dX5_goOn_148 : decode cX5_goOn 148 = .ok (.getfield 39, 3) := by decide +kernel
theorem dX5_goOn_151 : decode cX5_goOn 151 = .ok (.iaload, 1) := by decide +kernel
theorem dX5_goOn_152 : decode cX5_goOn 152 = .ok (.bipush 48, 2) := by decide +kernel
theorem dX5_goOn_154 : decode cX5_goOn 154 = .ok (.bipush 57, 2) := by decide +kernel
theorem dX5_goOn_156 : decode cX5_goOn 156 = .ok (.invokestatic 74, 3) := by decide +kernel
theorem dX5_goOn_159 : decode cX5_goOn 159 = .ok (.ifCond .eq 16, 3) := by decide +kernel
theorem dX5_goOn_162 : decode cX5_goOn 162 = .ok (.aload_n 0, 1) := by decide +kernel
theorem dX5_goOn_163 : decode cX5_goOn 163 = .ok (.bipush 8, 2) := by decide +kernel
theorem dX5_goOn_165 : decode cX5_goOn 165 = .ok (.putfield 45, 3) := by decide +kernel
theorem dX5_goOn_168 : decode cX5_goOn 168 = .ok (.aload_n 0, 1) := by decide +kernel
theorem dX5_goOn_169 : decode cX5_goOn 169 = .ok (.invokevirtual 85, 3) := by decide +kernel
theorem dX5_goOn_172 : decode cX5_goOn 172 = .ok (.goto 38, 3) := by decide +kernel
theorem dX5_goOn_175 : decode cX5_goOn 175 = .ok (.aload_n 0, 1) := by decide +kernel
theorem dX5_goOn_176 : decode cX5_goOn 176 = .ok (.aload_n 0, 1) := by decide +kernel
theorem dX5_goOn_177 : decode cX5_goOn 177 = .ok (.getfield 25, 3) := by decide +kernel
theorem dX5_goOn_180 : decode cX5_goOn 180 = .ok (.aload_n 0, 1) := by decide +kernel
theorem dX5_goOn_181 : decode cX5_goOn 181 = .ok (.getfield 39, 3) := by decide +kernel
theorem dX5_goOn_184 : decode cX5_goOn 184 = .ok (.iaload, 1) := by decide +kernel
theorem dX5_goOn_185 : decode cX5_goOn 185 = .ok (.bipush 59, 2) := by decide +kernel
theorem dX5_goOn_187 : decode cX5_goOn 187 = .ok (.if_icmp .ne 8, 3) := by decide +kernel
theorem dX5_goOn_190 : decode cX5_goOn 190 = .ok (.bipush 9, 2) := by decide +kernel
theorem dX5_goOn_192 : decode cX5_goOn 192 = .ok (.goto 5, 3) := by decide +kernel
theorem dX5_goOn_195 : decode cX5_goOn 195 = .ok (.bipush 11, 2) := by decide +kernel
theorem dX5_goOn_197 : decode cX5_goOn 197 = .ok (.putfield 45, 3) := by decide +kernel
theorem dX5_goOn_200 : decode cX5_goOn 200 = .ok (.aload_n 0, 1) := by decide +kernel
theorem dX5_goOn_201 : decode cX5_goOn 201 = .ok (.dup, 1) := by decide +kernel
theorem dX5_goOn_202 : decode cX5_goOn 202 = .ok (.getfield 39, 3) := by decide +kernel
theorem dX5_goOn_205 : decode cX5_goOn 205 = .ok (.iconst 1, 1) := by decide +kernel
theorem dX5_goOn_206 : decode cX5_goOn 206 = .ok (.iadd, 1) := by decide +kernel
theorem dX5_goOn_207 : decode cX5_goOn 207 = .ok (.putfield 39, 3) := by decide +kernel
theorem dX5_goOn_210 : decode cX5_goOn 210 = .ok (.return_, 1) := by decide +kernel
set_option maxRecDepth 20000 in
theorem ggX5_goOverNumber_X7_within : GoodIn wsX5_goOverNumber wsX7_within := goodIn_r _ [8] (by decide +kernel) (by decide +kernel)
set_option maxRecDepth 20000 in
theorem gX5_goOverNumber_X7_within_n74 : GoodIn wsX5_goOverNumber (wsX7_within) := ggX5_goOverNumber_X7_within
theorem dX5_goOverNumber_0 : decode cX5_goOverNumber 0 = .ok (.aload_n 0, 1) := by decide +kernel
theorem dX5_goOverNumber_1 : decode cX5_goOverNumber 1 = .ok (.iconst 0, 1) := by decide +kernel
theorem dX5_goOverNumber_2 : decode cX5_goOverNumber 2 = .ok (.putfield 71, 3) := by decide +kernel
theorem dX5_goOverNumber_5 : decode cX5_goOverNumber 5 = .ok (.aload_n 0, 1) := by decide +kernel
theorem dX5_goOverNumber_6 : decode cX5_goOverNumber 6 = .ok (.getfield 39, 3) := by decide +kernel
theorem dX5_goOverNumber_9 : decode cX5_goOverNumber 9 = .ok (.aload_n 0, 1) := by decide +kernel
theorem dX5_goOverNumber_10 : decode cX5_goOverNumber 10 = .ok (.getfield 28, 3) := by decide +kernel
theorem dX5_goOverNumber_13 : decode cX5_goOverNumber 13 = .ok (.if_icmp .ge 78, 3) := by decide +kernel
theorem dX5_goOverNumber_16 : decode cX5_goOverNumber 16 = .ok (.aload_n 0, 1) := by decide +kernel
theorem dX5_goOverNumber_17 : decode cX5_goOverNumber 17 = .ok (.getfield 25, 3) := by decide +kernel
theorem dX5_goOverNumber_20 : decode cX5_goOverNumber 20 = .ok (.aload_n 0, 1) := by decide +kernel
theorem dX5_goOverNumber_21 : decode cX5_goOverNumber 21 = .ok (.getfield 39, 3) := by decide +kernel
theorem dX5_goOverNumber_24 : decode cX5_goOverNumber 24 = .ok (.iaload, 1) := by decide +kernel
theorem dX5_goOverNumber_25 : decode cX5_goOverNumber 25 = .ok (.bipush 48, 2) := by decide +kernel
theorem dX5_goOverNumber_27 : decode cX5_goOverNumber 27 = .ok (.bipush 57, 2) := by decide +kernel
theorem dX5_goOverNumber_29 : decode cX5_goOverNumber 29 = .ok (.invokestatic 74, 3) := by decide +kernel
theorem dX5_goOverNumber_32 : decode cX5_goOverNumber 32 = .ok (.ifCond .eq 59, 3) := by decide +kernel
theorem dX5_goOverNumber_35 : decode cX5_goOverNumber 35 = .ok (.aload_n 0, 1) := by decide +kernel
theorem dX5_goOverNumber_36 : decode cX5_goOverNumber 36 = .ok (.aload_n 0, 1) := by decide +kernel
theorem dX5_goOverNumber_37 : decode cX5_goOverNumber 37 = .ok (.getfield 39, 3) := by decide +kernel
theorem dX5_goOverNumber_40 : decode cX5_goOverNumber 40 = .ok (.aload_n 0, 1) := by decide +kernel
theorem dX5_goOverNumber_41 : decode cX5_goOverNumber 41 = .ok (.getfield 78, 3) := by decide +kernel
theorem dX5_goOverNumber_44 : decode cX5_goOverNumber 44 = .ok (.isub, 1) := by decide +kernel
theorem dX5_goOverNumber_45 : decode cX5_goOverNumber 45 = .ok (.iconst 3, 1) := by decide +kernel
theorem dX5_goOverNumber_46 : decode cX5_goOverNumber 46 = .ok (.if_icmp .ge 26, 3) := by decide +kernel
theorem dX5_goOverNumber_49 : decode cX5_goOverNumber 49 = .ok (.bipush 10, 2) := by decide +kernel
theorem dX5_goOverNumber_51 : decode cX5_goOverNumber 51 = .ok (.aload_n 0, 1) := by decide +kernel
theorem dX5_goOverNumber_52 : decode cX5_goOverNumber 52 = .ok (.getfield 71, 3) := by decide +kernel
theorem dX5_goOverNumber_55 : decode cX5_goOverNumber 55 = .ok (.imul, 1) := by decide +kernel
theorem dX5_goOverNumber_56 : decode cX5_goOverNumber 56 = .ok (.aload_n 0, 1) := by decide +kernel
theorem dX5_goOverNumber_57 : decode cX5_goOverNumber 57 = .ok (.getfield 25, 3) := by decide +kernel
theorem dX5_goOverNumber_60 : decode cX5_goOverNumber 60 = .ok (.aload_n 0, 1) := by decide +kernel
theorem dX5_goOverNumber_61 : decode cX5_goOverNumber 61 = .ok (.getfield 39, 3) := by decide +kernel
theorem dX5_goOverNumber_64 : decode cX5_goOverNumber 64 = .ok (.iaload, 1) := by decide +kernel
theorem dX5_goOverNumber_65 : decode cX5_goOverNumber 65 = .ok (.iadd, 1) := by decide +kernel
theorem dX5_goOverNumber_66 : decode cX5_goOverNumber 66 = .ok (.bipush 48, 2) := by decide +kernel
theorem dX5_goOverNumber_68 : decode cX5_goOverNumber 68 = .ok (.isub, 1) := by decide +kernel
theorem dX5_goOverNumber_69 : decode cX5_goOverNumber 69 = .ok (.goto 6, 3) := by decide +kernel
theorem dX5_goOverNumber_72 : decode cX5_goOverNumber 72 = .ok (.sipush 1000, 3) := by decide +kernel
theorem dX5_goOverNumber_75 : decode cX5_goOverNumber 75 = .ok (.putfield 71, 3) := by decide +kernel
theorem dX5_goOverNumber_78 : decode cX5_goOverNumber 78 = .ok (.aload_n 0, 1) := by decide +kernel
theorem dX5_goOverNumber_79 : decode cX5_goOverNumber 79 = .ok (.dup, 1) := by decide +kernel
theorem dX5_goOverNumber_80 : decode cX5_goOverNumber 80 = .ok (.getfield 39, 3) := by decide +kernel
theorem dX5_goOverNumber_83 : decode cX5_goOverNumber 83 = .ok (.iconst 1, 1) := by decide +kernel
theorem dX5_goOverNumber_84 : decode cX5_goOverNumber 84 = .ok (.iadd, 1) := by decide +kernel
theorem dX5_goOverNumber_85 : decode cX5_goOverNumber 85 = .ok (.putfield 39, 3) := by decide +kernel
theorem dX5_goOverNumber_88 : decode cX5_goOverNumber 88 = .ok (.goto (-83), 3) := by decide +kernel
theorem dX5_goOverNumber_91 : decode cX5_goOverNumber 91 = .ok (.return_, 1) := by decide +kernel
set_option maxRecDepth 20000 in
theorem ggX5_wordFrom_X5_spelling : GoodIn wsX5_wordFrom wsX5_spelling := goodIn_r _ [4] (by decide +kernel) (by decide +kernel)
set_option maxRecDepth 20000 in
theorem gX5_wordFrom_X5_spelling : GoodIn wsX5_wordFrom (va_wsS RX5 88 yX5_spelling wsX5_spelling) := goodIn_app (goodIn_of _ (by decide +kernel)) ggX5_wordFrom_X5_spelling
set_option maxRecDepth 20000 in
theorem ggX5_wordFrom_X5_isSpelt : GoodIn wsX5_wordFrom wsX5_isSpelt := goodIn_r _ [8, 9, 10, 11, 12, 13, 14, 15, 16, 17, 18, 19, 20, 21, 22, 23, 24, 25, 26, 27, 28, 29, 30, 31, 32, 33, 34, 35, 36, 37, 38, 39, 40, 41, 42, 43, 44, 45, 46, 47, 48, 49, 50, 51, 52, 53, 54, 55, 56, 57, 58, 59, 60, 61, 62, 63, 64, 65, 66, 67, 68, 69, 70, 71] (by decide +kernel) (by decide +kernel)
set_option maxRecDepth 20000 in
theorem gX5_wordFrom_X5_isSpelt : GoodIn wsX5_wordFrom (wsV RX5 92 RX5 yX5_isSpelt wsX5_isSpelt) := goodIn_app (goodIn_of _ (by decide +kernel)) ggX5_wordFrom_X5_isSpelt
theorem dX5_wordFrom_0 : decode cX5_wordFrom 0 = .ok (.iconst 0, 1) := by decide +kernel
theorem dX5_wordFrom_1 : decode cX5_wordFrom 1 = .ok (.istore_n 2, 1) := by decide +kernel
theorem dX5_wordFrom_2 : decode cX5_wordFrom 2 = .ok (.iload_n 2, 1) := by decide +kernel
theorem dX5_wordFrom_3 : decode cX5_wordFrom 3 = .ok (.bipush 7, 2) := by decide +kernel
theorem dX5_wordFrom_5 : decode cX5_wordFrom 5 = .ok (.if_icmp .gt 23, 3) := by decide +kernel
theorem dX5_wordFrom_8 : decode cX5_wordFrom 8 = .ok (.aload_n 0, 1) := by decide +kernel
theorem dX5_wordFrom_9 : decode cX5_wordFrom 9 = .ok (.iload_n 2, 1) := by decide +kernel
theorem dX5_wordFrom_10 : decode cX5_wordFrom 10 = .ok (.invokestatic 88, 3) := by decide +kernel
theorem dX5_wordFrom_13 : decode cX5_wordFrom 13 = .ok (.iload_n 1, 1) := by decide +kernel
theorem dX5_wordFrom_14 : decode cX5_wordFrom 14 = .ok (.invokevirtual 92, 3) := by decide +kernel
theorem dX5_wordFrom_17 : decode cX5_wordFrom 17 = .ok (.ifCond .eq 5, 3) := by decide +kernel
theorem dX5_wordFrom_20 : decode cX5_wordFrom 20 = .ok (.iload_n 2, 1) := by decide +kernel
theorem dX5_wordFrom_21 : decode cX5_wordFrom 21 = .ok (.ireturn, 1) := by decide +kernel
theorem dX5_wordFrom_22 : decode cX5_wordFrom 22 = .ok (.iinc 2 1, 3) := by decide +kernel
theorem dX5_wordFrom_25 : decode cX5_wordFrom 25 = .ok (.goto (-23), 3) := by decide +kernel
theorem dX5_wordFrom_28 : decode cX5_wordFrom 28 = .ok (.bipush 11, 2) := by decide +kernel
theorem dX5_wordFrom_30 : decode cX5_wordFrom 30 = .ok (.ireturn, 1) := by decide +kernel
set_option maxRecDepth 20000 in
theorem ggX5_isSpelt_J0_length_8abf5 : GoodIn wsX5_isSpelt wsJ0_length_8abf5 := goodIn_r _ [7, 8, 9, 10, 11, 6, 12, 13, 14] (by decide +kernel) (by decide +kernel)
set_option maxRecDepth 20000 in
theorem gX5_isSpelt_J0_length_8abf5 : GoodIn wsX5_isSpelt (wsV RX5 96 RJ0 yJ0_length_8abf5 wsJ0_length_8abf5) := goodIn_app (goodIn_of _ (by decide +kernel)) ggX5_isSpelt_J0_length_8abf5
set_option maxRecDepth 20000 in
theorem ggX5_isSpelt_J0_charAt_5068e : GoodIn wsX5_isSpelt wsJ0_charAt_5068e := goodIn_r _ [18, 8, 19, 20, 21, 6, 22, 13, 14, 23, 24, 25, 26, 27, 28, 29, 30, 31, 32, 33, 34, 35, 36, 37, 38, 39, 40, 41, 42, 43, 44, 45, 46, 47, 48, 49, 50, 51] (by decide +kernel) (by decide +kernel)
set_option maxRecDepth 20000 in
theorem gX5_isSpelt_J0_charAt_5068e : GoodIn wsX5_isSpelt (wsV RX5 101 RJ0 yJ0_charAt_5068e wsJ0_charAt_5068e) := goodIn_app (goodIn_of _ (by decide +kernel)) ggX5_isSpelt_J0_charAt_5068e
theorem dX5_isSpelt_0 : decode cX5_isSpelt 0 = .ok (.aload_n 1, 1) := by decide +kernel
theorem dX5_isSpelt_1 : decode cX5_isSpelt 1 = .ok (.invokevirtual 96, 3) := by decide +kernel
theorem dX5_isSpelt_4 : decode cX5_isSpelt 4 = .ok (.aload_n 0, 1) := by decide +kernel
theorem dX5_isSpelt_5 : decode cX5_isSpelt 5 = .ok (.getfield 39, 3) := by decide +kernel
theorem dX5_isSpelt_8 : decode cX5_isSpelt 8 = .ok (.iload_n 2, 1) := by decide +kernel
theorem dX5_isSpelt_9 : decode cX5_isSpelt 9 = .ok (.isub, 1) := by decide +kernel
theorem dX5_isSpelt_10 : decode cX5_isSpelt 10 = .ok (.if_icmp .eq 5, 3) := by decide +kernel
theorem dX5_isSpelt_13 : decode cX5_isSpelt 13 = .ok (.iconst 0, 1) := by decide +kernel
theorem dX5_isSpelt_14 : decode cX5_isSpelt 14 = .ok (.ireturn, 1) := by decide +kernel
theorem dX5_isSpelt_15 : decode cX5_isSpelt 15 = .ok (.iconst 0, 1) := by decide +kernel
theorem dX5_isSpelt_16 : decode cX5_isSpelt 16 = .ok (.istore_n 3, 1) := by decide +kernel
theorem dX5_isSpelt_17 : decode cX5_isSpelt 17 = .ok (.iload_n 3, 1) := by decide +kernel
theorem dX5_isSpelt_18 : decode cX5_isSpelt 18 = .ok (.aload_n 1, 1) := by decide +kernel
theorem dX5_isSpelt_19 : decode cX5_isSpelt 19 = .ok (.invokevirtual 96, 3) := by decide +kernel
theorem dX5_isSpelt_22 : decode cX5_isSpelt 22 = .ok (.if_icmp .ge 27, 3) := by decide +kernel
theorem dX5_isSpelt_25 : decode cX5_isSpelt 25 = .ok (.aload_n 1, 1) := by decide +kernel
theorem dX5_isSpelt_26 : decode cX5_isSpelt 26 = .ok (.iload_n 3, 1) := by decide +kernel
theorem dX5_isSpelt_27 : decode cX5_isSpelt 27 = .ok (.invokevirtual 101, 3) := by decide +kernel
theorem dX5_isSpelt_30 : decode cX5_isSpelt 30 = .ok (.aload_n 0, 1) := by decide +kernel
theorem dX5_isSpelt_31 : decode cX5_isSpelt 31 = .ok (.getfield 25, 3) := by decide +kernel
theorem dX5_isSpelt_34 : decode cX5_isSpelt 34 = .ok (.iload_n 2, 1) := by decide +kernel
theorem dX5_isSpelt_35 : decode cX5_isSpelt 35 = .ok (.iload_n 3, 1) := by decide +kernel
theorem dX5_isSpelt_36 : decode cX5_isSpelt 36 = .ok (.iadd, 1) := by decide +kernel
theorem dX5_isSpelt_37 : decode cX5_isSpelt 37 = .ok (.iaload, 1) := by decide +kernel
theorem dX5_isSpelt_38 : decode cX5_isSpelt 38 = .ok (.if_icmp .eq 5, 3) := by decide +kernel
theorem dX5_isSpelt_41 : decode cX5_isSpelt 41 = .ok (.iconst 0, 1) := by decide +kernel
theorem dX5_isSpelt_42 : decode cX5_isSpelt 42 = .ok (.ireturn, 1) := by decide +kernel
theorem dX5_isSpelt_43 : decode cX5_isSpelt 43 = .ok (.iinc 3 1, 3) := by decide +kernel
theorem dX5_isSpelt_46 : decode cX5_isSpelt 46 = .ok (.goto (-29), 3) := by decide +kernel
theorem dX5_isSpelt_49 : decode cX5_isSpelt 49 = .ok (.iconst 1, 1) := by decide +kernel
theorem dX5_isSpelt_50 : decode cX5_isSpelt 50 = .ok (.ireturn, 1) := by decide +kernel
theorem dX5_spelling_0 : decode cX5_spelling 0 = .ok (.iload_n 0, 1) := by decide +kernel
theorem dX5_spelling_1 : decode cX5_spelling 1 = .ok (.tableswitch 64 0 6 #[43, 46, 49, 52, 55, 58, 61], 43) := by decide +kernel
theorem dX5_spelling_44 : decode cX5_spelling 44 = .ok (.ldc 105, 2) := by decide +kernel
theorem dX5_spelling_46 : decode cX5_spelling 46 = .ok (.areturn, 1) := by decide +kernel
theorem dX5_spelling_47 : decode cX5_spelling 47 = .ok (.ldc 107, 2) := by decide +kernel
theorem dX5_spelling_49 : decode cX5_spelling 49 = .ok (.areturn, 1) := by decide +kernel
theorem dX5_spelling_50 : decode cX5_spelling 50 = .ok (.ldc 109, 2) := by decide +kernel
theorem dX5_spelling_52 : decode cX5_spelling 52 = .ok (.areturn, 1) := by decide +kernel
theorem dX5_spelling_53 : decode cX5_spelling 53 = .ok (.ldc 111, 2) := by decide +kernel
theorem dX5_spelling_55 : decode cX5_spelling 55 = .ok (.areturn, 1) := by decide +kernel
theorem dX5_spelling_56 : decode cX5_spelling 56 = .ok (.ldc 113, 2) := by decide +kernel
theorem dX5_spelling_58 : decode cX5_spelling 58 = .ok (.areturn, 1) := by decide +kernel
theorem dX5_spelling_59 : decode cX5_spelling 59 = .ok (.ldc 115, 2) := by decide +kernel
theorem dX5_spelling_61 : decode cX5_spelling 61 = .ok (.areturn, 1) := by decide +kernel
theorem dX5_spelling_62 : decode cX5_spelling 62 = .ok (.ldc 117, 2) := by decide +kernel
theorem dX5_spelling_64 : decode cX5_spelling 64 = .ok (.areturn, 1) := by decide +kernel
theorem dX5_spelling_65 : decode cX5_spelling 65 = .ok (.ldc 119, 2) := by decide +kernel
theorem dX5_spelling_67 : decode cX5_spelling 67 = .ok (.areturn, 1) := by decide +kernel
theorem dX6_init_0 : decode cX6_init 0 = .ok (.aload_n 0, 1) := by decide +kernel
theorem dX6_init_1 : decode cX6_init 1 = .ok (.invokespecial 3, 3) := by decide +kernel
theorem dX6_init_4 : decode cX6_init 4 = .ok (.aload_n 0, 1) := by decide +kernel
theorem dX6_init_5 : decode cX6_init 5 = .ok (.bipush 6, 2) := by decide +kernel
theorem dX6_init_7 : decode cX6_init 7 = .ok (.newarray .int, 2) := by decide +kernel
theorem dX6_init_9 : decode cX6_init 9 = .ok (.putfield 9, 3) := by decide +kernel
theorem dX6_init_12 : decode cX6_init 12 = .ok (.aload_n 0, 1) := by decide +kernel
theorem dX6_init_13 : decode cX6_init 13 = .ok (.bipush 6, 2) := by decide +kernel
theorem dX6_init_15 : decode cX6_init 15 = .ok (.newarray .int, 2) := by decide +kernel
theorem dX6_init_17 : decode cX6_init 17 = .ok (.putfield 15, 3) := by decide +kernel
theorem dX6_init_20 : decode cX6_init 20 = .ok (.return_, 1) := by decide +kernel
theorem dX6_take_0 : decode cX6_take 0 = .ok (.aload_n 0, 1) := by decide +kernel
theorem dX6_take_1 : decode cX6_take 1 = .ok (.dup, 1) := by decide +kernel
theorem dX6_take_2 : decode cX6_take 2 = .ok (.getfield 18, 3) := by decide +kernel
theorem dX6_take_5 : decode cX6_take 5 = .ok (.iconst 1, 1) := by decide +kernel
theorem dX6_take_6 : decode cX6_take 6 = .ok (.iload_n 1, 1) := by decide +kernel
theorem dX6_take_7 : decode cX6_take 7 = .ok (.ishl, 1) := by decide +kernel
theorem dX6_take_8 : decode cX6_take 8 = .ok (.ior, 1) := by decide +kernel
theorem dX6_take_9 : decode cX6_take 9 = .ok (.putfield 18, 3) := by decide +kernel
theorem dX6_take_12 : decode cX6_take 12 = .ok (.aload_n 0, 1) := by decide +kernel
theorem dX6_take_13 : decode cX6_take 13 = .ok (.getfield 9, 3) := by decide +kernel
theorem dX6_take_16 : decode cX6_take 16 = .ok (.iload_n 1, 1) := by decide +kernel
theorem dX6_take_17 : decode cX6_take 17 = .ok (.iload_n 2, 1) := by decide +kernel
theorem dX6_take_18 : decode cX6_take 18 = .ok (.iastore, 1) := by decide +kernel
theorem dX6_take_19 : decode cX6_take 19 = .ok (.aload_n 0, 1) := by decide +kernel
theorem dX6_take_20 : decode cX6_take 20 = .ok (.getfield 15, 3) := by decide +kernel
theorem dX6_take_23 : decode cX6_take 23 = .ok (.iload_n 1, 1) := by decide +kernel
theorem dX6_take_24 : decode cX6_take 24 = .ok (.iload_n 3, 1) := by decide +kernel
theorem dX6_take_25 : decode cX6_take 25 = .ok (.iastore, 1) := by decide +kernel
theorem dX6_take_26 : decode cX6_take 26 = .ok (.return_, 1) := by decide +kernel
set_option maxRecDepth 20000 in
theorem ggX6_agree_X3_settle : GoodIn wsX6_agree wsX3_settle := goodIn_r _ [10, 11, 12, 13, 9, 14, 15, 16, 17, 18, 19, 20, 21, 22, 23, 24, 25, 26, 27, 28, 29, 30, 31, 32, 33, 34, 35, 36, 37, 38, 39, 40, 41, 42, 43, 44, 45, 46, 47, 48, 49, 50, 51, 52, 53, 71, 72, 73, 74, 75, 76, 77, 78, 82, 83, 84, 85, 86, 87] (by decide +kernel) (by decide +kernel)
set_option maxRecDepth 20000 in
theorem gX6_agree_X3_settle : GoodIn wsX6_agree (wsV RX6 27 RX3 yX3_settle wsX3_settle) := goodIn_app (goodIn_of _ (by decide +kernel)) ggX6_agree_X3_settle
set_option maxRecDepth 20000 in
theorem ggX6_agree_X3_pullLies : GoodIn wsX6_agree wsX3_pullLies := goodIn_r _ [57, 44, 58, 59, 60, 9, 61, 30, 31, 45, 62, 63, 64, 65, 66, 67, 68, 22, 69, 70, 82, 83, 84, 85, 86, 87, 71, 72, 73, 74, 75, 76, 77, 78] (by decide +kernel) (by decide +kernel)
set_option maxRecDepth 20000 in
theorem gX6_agree_X3_pullLies : GoodIn wsX6_agree (wsV RX6 36 RX3 yX3_pullLies wsX3_pullLies) := goodIn_app (goodIn_of _ (by decide +kernel)) ggX6_agree_X3_pullLies
theorem dX6_agree_0 : decode cX6_agree 0 = .ok (.aload_n 2, 1) := by decide +kernel
theorem dX6_agree_1 : decode cX6_agree 1 = .ok (.aload_n 1, 1) := by decide +kernel
theorem dX6_agree_2 : decode cX6_agree 2 = .ok (.aload_n 1, 1) := by decide +kernel
theorem dX6_agree_3 : decode cX6_agree 3 = .ok (.getfield 22, 3) := by decide +kernel
theorem dX6_agree_6 : decode cX6_agree 6 = .ok (.invokevirtual 27, 3) := by decide +kernel
theorem dX6_agree_9 : decode cX6_agree 9 = .ok (.iconst 0, 1) := by decide +kernel
theorem dX6_agree_10 : decode cX6_agree 10 = .ok (.istore_n 3, 1) := by decide +kernel
theorem dX6_agree_11 : decode cX6_agree 11 = .ok (.iload_n 3, 1) := by decide +kernel
theorem dX6_agree_12 : decode cX6_agree 12 = .ok (.aload_n 1, 1) := by decide +kernel
theorem dX6_agree_13 : decode cX6_agree 13 = .ok (.getfield 33, 3) := by decide +kernel
theorem dX6_agree_16 : decode cX6_agree 16 = .ok (.if_icmp .ge 43, 3) := by decide +kernel
theorem dX6_agree_19 : decode cX6_agree 19 = .ok (.aload_n 0, 1) := by decide +kernel
theorem dX6_agree_20 : decode cX6_agree 20 = .ok (.getfield 18, 3) := by decide +kernel
theorem dX6_agree_23 : decode cX6_agree 23 = .ok (.iload_n 3, 1) := by decide +kernel
theorem dX6_agree_24 : decode cX6_agree 24 = .ok (.ishr, 1) := by decide +kernel
theorem dX6_agree_25 : decode cX6_agree 25 = .ok (.iconst 1, 1) := by decide +kernel
theorem dX6_agree_26 : decode cX6_agree 26 = .ok (.iand, 1) := by decide +kernel
theorem dX6_agree_27 : decode cX6_agree 27 = .ok (.ifCond .eq 26, 3) := by decide +kernel
theorem dX6_agree_30 : decode cX6_agree 30 = .ok (.aload_n 2, 1) := by decide +kernel
theorem dX6_agree_31 : decode cX6_agree 31 = .ok (.aload_n 1, 1) := by decide +kernel
theorem dX6_agree_32 : decode cX6_agree 32 = .ok (.iload_n 3, 1) := by decide +kernel
theorem dX6_agree_33 : decode cX6_agree 33 = .ok (.aload_n 0, 1) := by decide +kernel
theorem dX6_agree_34 : decode cX6_agree 34 = .ok (.getfield 9, 3) := by decide +kernel
theorem dX6_agree_37 : decode cX6_agree 37 = .ok (.iload_n 3, 1) := by decide +kernel
theorem dX6_agree_38 : decode cX6_agree 38 = .ok (.iaload, 1) := by decide +kernel
theorem dX6_agree_39 : decode cX6_agree 39 = .ok (.aload_n 0, 1) := by decide +kernel
theorem dX6_agree_40 : decode cX6_agree 40 = .ok (.getfield 15, 3) := by decide +kernel
theorem dX6_agree_43 : decode cX6_agree 43 = .ok (.iload_n 3, 1) := by decide +kernel
theorem dX6_agree_44 : decode cX6_agree 44 = .ok (.iaload, 1) := by decide +kernel
theorem dX6_agree_45 : decode cX6_agree 45 = .ok (.invokevirtual 36, 3) := by decide +kernel
theorem dX6_agree_48 : decode cX6_agree 48 = .ok (.ifCond .ne 5, 3) := by decide +kernel
theorem dX6_agree_51 : decode cX6_agree 51 = .ok (.iconst 0, 1) := by decide +kernel
theorem dX6_agree_52 : decode cX6_agree 52 = .ok (.ireturn, 1) := by decide +kernel
theorem dX6_agree_53 : decode cX6_agree 53 = .ok (.iinc 3 1, 3) := by decide +kernel
theorem dX6_agree_56 : decode cX6_agree 56 = .ok (.goto (-45), 3) := by decide +kernel
theorem dX6_agree_59 : decode cX6_agree 59 = .ok (.iconst 1, 1) := by decide +kernel
theorem dX6_agree_60 : decode cX6_agree 60 = .ok (.ireturn, 1) := by decide +kernel
set_option maxRecDepth 20000 in
theorem ggX6_suspectAt_X6_explains : GoodIn wsX6_suspectAt wsX6_explains := goodIn_r _ [6, 7, 8, 9, 10, 11, 12, 13, 14, 15, 16, 17, 18, 19, 5, 20, 21, 1, 22, 23, 24, 25, 26, 27, 28, 29, 30, 31, 32, 33, 34, 35, 36, 37, 38, 39, 40, 41, 42, 43, 44, 45, 46, 47, 48, 49, 50, 51, 52, 53, 54, 55, 56, 57, 58, 59, 60, 61, 62, 63, 64, 65, 66, 67, 68, 69, 70, 71, 72, 73, 74, 75, 76, 77, 78, 79, 80, 81, 82, 83, 84, 85, 86, 87, 88, 89, 90, 91, 92, 93, 94, 95, 96, 97, 98, 99, 100, 101] (by decide +kernel) (by decide +kernel)
set_option maxRecDepth 20000 in
theorem gX6_suspectAt_X6_explains : GoodIn wsX6_suspectAt (wsV RX6 40 RX6 yX6_explains wsX6_explains) := goodIn_app (goodIn_of _ (by decide +kernel)) ggX6_suspectAt_X6_explains
theorem dX6_suspectAt_0 : decode cX6_suspectAt 0 = .ok (.iconst 0, 1) := by decide +kernel
theorem dX6_suspectAt_1 : decode cX6_suspectAt 1 = .ok (.istore 4, 2) := by decide +kernel
theorem dX6_suspectAt_3 : decode cX6_suspectAt 3 = .ok (.iconst 0, 1) := by decide +kernel
theorem dX6_suspectAt_4 : decode cX6_suspectAt 4 = .ok (.istore 5, 2) := by decide +kernel
theorem dX6_suspectAt_6 : decode cX6_suspectAt 6 = .ok (.iload 5, 2) := by decide +kernel
theorem dX6_suspectAt_8 : decode cX6_suspectAt 8 = .ok (.aload_n 1, 1) := by decide +kernel
theorem dX6_suspectAt_9 : decode cX6_suspectAt 9 = .ok (.getfield 33, 3) := by decide +kernel
theorem dX6_suspectAt_12 : decode cX6_suspectAt 12 = .ok (.if_icmp .ge 61, 3) := by decide +kernel
theorem dX6_suspectAt_15 : decode cX6_suspectAt 15 = .ok (.bipush (-3), 2) := by decide +kernel
theorem dX6_suspectAt_17 : decode cX6_suspectAt 17 = .ok (.istore 6, 2) := by decide +kernel
theorem dX6_suspectAt_19 : decode cX6_suspectAt 19 = .ok (.iload 6, 2) := by decide +kernel
theorem dX6_suspectAt_21 : decode cX6_suspectAt 21 = .ok (.iconst 3, 1) := by decide +kernel
theorem dX6_suspectAt_22 : decode cX6_suspectAt 22 = .ok (.if_icmp .gt 45, 3) := by decide +kernel
theorem dX6_suspectAt_25 : decode cX6_suspectAt 25 = .ok (.aload_n 0, 1) := by decide +kernel
theorem dX6_suspectAt_26 : decode cX6_suspectAt 26 = .ok (.aload_n 1, 1) := by decide +kernel
theorem dX6_suspectAt_27 : decode cX6_suspectAt 27 = .ok (.aload_n 2, 1) := by decide +kernel
theorem dX6_suspectAt_28 : decode cX6_suspectAt 28 = .ok (.iload 5, 2) := by decide +kernel
theorem dX6_suspectAt_30 : decode cX6_suspectAt 30 = .ok (.iload 6, 2) := by decide +kernel
theorem dX6_suspectAt_32 : decode cX6_suspectAt 32 = .ok (.invokevirtual 40, 3) := by decide +kernel
theorem dX6_suspectAt_35 : decode cX6_suspectAt 35 = .ok (.ifCond .ne 6, 3) := by decide +kernel
theorem dX6_suspectAt_38 : decode cX6_suspectAt 38 = .ok (.goto 23, 3) := by decide +kernel
theorem dX6_suspectAt_41 : decode cX6_suspectAt 41 = .ok (.iload 4, 2) := by decide +kernel
theorem dX6_suspectAt_43 : decode cX6_suspectAt 43 = .ok (.iload_n 3, 1) := by decide +kernel
theorem dX6_suspectAt_44 : decode cX6_suspectAt 44 = .ok (.if_icmp .ne 14, 3) := by decide +kernel
theorem dX6_suspectAt_47 : decode cX6_suspectAt 47 = .ok (.bipush 10, 2) := by decide +kernel
theorem dX6_suspectAt_49 : decode cX6_suspectAt 49 = .ok (.iload 5, 2) := by decide +kernel
theorem dX6_suspectAt_51 : decode cX6_suspectAt 51 = .ok (.imul, 1) := by decide +kernel
theorem dX6_suspectAt_52 : decode cX6_suspectAt 52 = .ok (.iload 6, 2) := by decide +kernel
theorem dX6_suspectAt_54 : decode cX6_suspectAt 54 = .ok (.iadd, 1) := by decide +kernel
theorem dX6_suspectAt_55 : decode cX6_suspectAt 55 = .ok (.iconst 3, 1) := by decide +kernel
theorem dX6_suspectAt_56 : decode cX6_suspectAt 56 = .ok (.iadd, 1) := by decide +kernel
theorem dX6_suspectAt_57 : decode cX6_suspectAt 57 = .ok (.ireturn, 1) := by decide +kernel
theorem dX6_suspectAt_58 : decode cX6_suspectAt 58 = .ok (.iinc 4 1, 3) := by decide +kernel
theorem dX6_suspectAt_61 : decode cX6_suspectAt 61 = .ok (.iinc 6 1, 3) := by decide +kernel
theorem dX6_suspectAt_64 : decode cX6_suspectAt 64 = .ok (.goto (-45), 3) := by decide +kernel
theorem dX6_suspectAt_67 : decode cX6_suspectAt 67 = .ok (.iinc 5 1, 3) := by decide +kernel
theorem dX6_suspectAt_70 : decode cX6_suspectAt 70 = .ok (.goto (-64), 3) := by decide +kernel
theorem dX6_suspectAt_73 : decode cX6_suspectAt 73 = .ok (.iload_n 3, 1) := by decide +kernel
theorem dX6_suspectAt_74 : decode cX6_suspectAt 74 = .ok (.iconst (-1), 1) := by decide +kernel
theorem dX6_suspectAt_75 : decode cX6_suspectAt 75 = .ok (.if_icmp .ne 8, 3) := by decide +kernel
theorem dX6_suspectAt_78 : decode cX6_suspectAt 78 = .ok (.iload 4, 2) := by decide +kernel
theorem dX6_suspectAt_80 : decode cX6_suspectAt 80 = .ok (.goto 4, 3) := by decide +kernel
theorem dX6_suspectAt_83 : decode cX6_suspectAt 83 = .ok (.iconst (-1), 1) := by decide +kernel
theorem dX6_suspectAt_84 : decode cX6_suspectAt 84 = .ok (.ireturn, 1) := by decide +kernel
set_option maxRecDepth 20000 in
theorem ggX6_explains_X2_isBroken : GoodIn wsX6_explains wsX2_isBroken := goodIn_r _ [6, 7, 81, 82, 83, 84, 85, 86, 87, 88] (by decide +kernel) (by decide +kernel)
set_option maxRecDepth 20000 in
theorem gX6_explains_X2_isBroken : GoodIn wsX6_explains (wsV RX6 47 RX2 yX2_isBroken wsX2_isBroken) := goodIn_app (goodIn_of _ (by decide +kernel)) ggX6_explains_X2_isBroken
set_option maxRecDepth 20000 in
theorem ggX6_explains_X7_within : GoodIn wsX6_explains wsX7_within := goodIn_r _ [10] (by decide +kernel) (by decide +kernel)
set_option maxRecDepth 20000 in
theorem gX6_explains_X7_within_n51 : GoodIn wsX6_explains (wsX7_within) := ggX6_explains_X7_within
set_option maxRecDepth 20000 in
theorem ggX6_explains_X6_agree : GoodIn wsX6_explains wsX6_agree := goodIn_r _ [15, 16, 17, 18, 19, 20, 21, 22, 23, 24, 25, 26, 27, 28, 29, 30, 31, 32, 33, 34, 35, 36, 5, 37, 38, 39, 40, 41, 42, 43, 44, 45, 46, 47, 48, 49, 50, 51, 52, 53, 54, 55, 56, 57, 58, 59, 60, 61, 62, 63, 64, 65, 66, 67, 68, 69, 70, 71, 72, 73, 74, 75, 76, 77, 78, 79, 80, 3, 4, 6, 7, 81, 82, 83, 84, 85, 86, 87, 88, 89, 90, 91, 92, 93, 94, 95, 96, 97] (by decide +kernel) (by decide +kernel)
set_option maxRecDepth 20000 in
theorem gX6_explains_X6_agree : GoodIn wsX6_explains (wsV RX6 55 RX6 yX6_agree wsX6_agree) := goodIn_app (goodIn_of _ (by decide +kernel)) ggX6_explains_X6_agree
theorem dX6_explains_0 : decode cX6_explains 0 = .ok (.aload_n 1, 1) := by decide +kernel
theorem dX6_explains_1 : decode cX6_explains 1 = .ok (.getfield 44, 3) := by decide +kernel
theorem dX6_explains_4 : decode cX6_explains 4 = .ok (.iload_n 3, 1) := by decide +kernel
theorem dX6_explains_5 : decode cX6_explains 5 = .ok (.iaload, 1) := by decide +kernel
theorem dX6_explains_6 : decode cX6_explains 6 = .ok (.istore 5, 2) := by decide +kernel
theorem dX6_explains_8 : decode cX6_explains 8 = .ok (.iload 4, 2) := by decide +kernel
theorem dX6_explains_10 : decode cX6_explains 10 = .ok (.ifCond .eq 26, 3) := by decide +kernel
theorem dX6_explains_13 : decode cX6_explains 13 = .ok (.aload_n 1, 1) := by decide +kernel
theorem dX6_explains_14 : decode cX6_explains 14 = .ok (.iload_n 3, 1) := by decide +kernel
theorem dX6_explains_15 : decode cX6_explains 15 = .ok (.invokevirtual 47, 3) := by decide +kernel
theorem dX6_explains_18 : decode cX6_explains 18 = .ok (.ifCond .ne 18, 3) := by decide +kernel
theorem dX6_explains_21 : decode cX6_explains 21 = .ok (.iload 5, 2) := by decide +kernel
theorem dX6_explains_23 : decode cX6_explains 23 = .ok (.iload 4, 2) := by decide +kernel
theorem dX6_explains_25 : decode cX6_explains 25 = .ok (.iadd, 1) := by decide +kernel
theorem dX6_explains_26 : decode cX6_explains 26 = .ok (.iconst 0, 1) := by decide +kernel
theorem dX6_explains_27 : decode cX6_explains 27 = .ok (.sipush 200, 3) := by decide +kernel
theorem dX6_explains_30 : decode cX6_explains 30 = .ok (.invokestatic 51, 3) := by decide +kernel
theorem dX6_explains_33 : decode cX6_explains 33 = .ok (.ifCond .ne 5, 3) := by decide +kernel
theorem dX6_explains_36 : decode cX6_explains 36 = .ok (.iconst 0, 1) := by decide +kernel
theorem dX6_explains_37 : decode cX6_explains 37 = .ok (.ireturn, 1) := by decide +kernel
theorem dX6_explains_38 : decode cX6_explains 38 = .ok (.aload_n 1, 1) := by decide +kernel
theorem dX6_explains_39 : decode cX6_explains 39 = .ok (.getfield 44, 3) := by decide +kernel
theorem dX6_explains_42 : decode cX6_explains 42 = .ok (.iload_n 3, 1) := by decide +kernel
theorem dX6_explains_43 : decode cX6_explains 43 = .ok (.iload 5, 2) := by decide +kernel
theorem dX6_explains_45 : decode cX6_explains 45 = .ok (.iload 4, 2) := by decide +kernel
theorem dX6_explains_47 : decode cX6_explains 47 = .ok (.iadd, 1) := by decide +kernel
theorem dX6_explains_48 : decode cX6_explains 48 = .ok (.iastore, 1) := by decide +kernel
theorem dX6_explains_49 : decode cX6_explains 49 = .ok (.aload_n 0, 1) := by decide +kernel
theorem dX6_explains_50 : decode cX6_explains 50 = .ok (.aload_n 1, 1) := by decide +kernel
theorem dX6_explains_51 : decode cX6_explains 51 = .ok (.aload_n 2, 1) := by decide +kernel
theorem dX6_explains_52 : decode cX6_explains 52 = .ok (.invokevirtual 55, 3) := by decide +kernel
theorem dX6_explains_55 : decode cX6_explains 55 = .ok (.istore 6, 2) := by decide +kernel
theorem dX6_explains_57 : decode cX6_explains 57 = .ok (.aload_n 1, 1) := by decide +kernel
theorem dX6_explains_58 : decode cX6_explains 58 = .ok (.getfield 44, 3) := by decide +kernel
theorem dX6_explains_61 : decode cX6_explains 61 = .ok (.iload_n 3, 1) := by decide +kernel
theorem dX6_explains_62 : decode cX6_explains 62 = .ok (.iload 5, 2) := by decide +kernel
theorem dX6_explains_64 : decode cX6_explains 64 = .ok (.iastore, 1) := by decide +kernel
theorem dX6_explains_65 : decode cX6_explains 65 = .ok (.iload 6, 2) := by decide +kernel
theorem dX6_explains_67 : decode cX6_explains 67 = .ok (.ireturn, 1) := by decide +kernel
set_option maxRecDepth 20000 in
theorem ggX7_init_X2_init : GoodIn wsX7_init wsX2_init := goodIn_r _ [33, 34, 2, 3, 35, 36, 37, 38, 39, 40, 90, 91, 92, 93, 94, 95, 96, 97] (by decide +kernel) (by decide +kernel)
set_option maxRecDepth 20000 in
theorem gX7_init_X2_init_n9 : GoodIn wsX7_init (wsX2_init) := ggX7_init_X2_init
set_option maxRecDepth 20000 in
theorem ggX7_init_X3_init : GoodIn wsX7_init wsX3_init := goodIn_r _ [42, 43, 2, 3, 44, 45, 46, 47, 48, 49, 50, 106, 107, 108, 109, 110, 111] (by decide +kernel) (by decide +kernel)
set_option maxRecDepth 20000 in
theorem gX7_init_X3_init_n18 : GoodIn wsX7_init (wsX3_init) := ggX7_init_X3_init
set_option maxRecDepth 20000 in
theorem ggX7_init_X1_init : GoodIn wsX7_init wsX1_init := goodIn_r _ [52, 53, 2, 3, 54, 9, 10, 55, 35, 56, 57, 58, 41, 42, 43, 44, 45, 46, 47, 48, 49, 50, 106, 107, 108, 109, 110, 111, 112, 113, 114, 115, 116, 117, 118] (by decide +kernel) (by decide +kernel)
set_option maxRecDepth 20000 in
theorem gX7_init_X1_init_n25 : GoodIn wsX7_init (wsX1_init) := ggX7_init_X1_init
set_option maxRecDepth 20000 in
theorem ggX7_init_X0_init : GoodIn wsX7_init wsX0_init := goodIn_r _ [60, 61, 2, 3, 62, 35, 63, 64, 119, 120, 121, 122] (by decide +kernel) (by decide +kernel)
set_option maxRecDepth 20000 in
theorem gX7_init_X0_init_n32 : GoodIn wsX7_init (wsX0_init) := ggX7_init_X0_init
set_option maxRecDepth 20000 in
theorem ggX7_init_X4_init : GoodIn wsX7_init wsX4_init := goodIn_r _ [66, 67, 2, 3, 35, 68, 69, 123, 124] (by decide +kernel) (by decide +kernel)
set_option maxRecDepth 20000 in
theorem gX7_init_X4_init_n39 : GoodIn wsX7_init (wsX4_init) := ggX7_init_X4_init
set_option maxRecDepth 20000 in
theorem ggX7_init_X6_init : GoodIn wsX7_init wsX6_init := goodIn_r _ [71, 72, 2, 3, 35, 73, 74, 125, 126, 127] (by decide +kernel) (by decide +kernel)
set_option maxRecDepth 20000 in
theorem gX7_init_X6_init_n46 : GoodIn wsX7_init (wsX6_init) := ggX7_init_X6_init
set_option maxRecDepth 20000 in
theorem ggX7_init_X5_init : GoodIn wsX7_init wsX5_init := goodIn_r _ [76, 77, 2, 3, 78, 35, 79, 80, 81, 82, 128, 129, 130, 131, 132, 133, 134, 135, 136, 137, 138, 139] (by decide +kernel) (by decide +kernel)
set_option maxRecDepth 20000 in
theorem gX7_init_X5_init_n53 : GoodIn wsX7_init (wsX5_init) := ggX7_init_X5_init
set_option maxRecDepth 20000 in
theorem ggX7_init_X2_begin : GoodIn wsX7_init wsX2_begin := goodIn_r _ [86, 87, 88, 89, 36, 37, 38, 39, 40, 90, 91, 92, 93, 94, 95, 96, 97] (by decide +kernel) (by decide +kernel)
set_option maxRecDepth 20000 in
theorem gX7_init_X2_begin : GoodIn wsX7_init (wsV RX7 58 RX2 yX2_begin wsX2_begin) := goodIn_app (goodIn_of _ (by decide +kernel)) ggX7_init_X2_begin
theorem dX7_init_0 : decode cX7_init 0 = .ok (.aload_n 0, 1) := by decide +kernel
theorem dX7_init_1 : decode cX7_init 1 = .ok (.invokespecial 1, 3) := by decide +kernel
theorem dX7_init_4 : decode cX7_init 4 = .ok (.aload_n 0, 1) := by decide +kernel
theorem dX7_init_5 : decode cX7_init 5 = .ok (.new 7, 3) := by decide +kernel
theorem dX7_init_8 : decode cX7_init 8 = .ok (.dup, 1) := by decide +kernel
theorem dX7_init_9 : decode cX7_init 9 = .ok (.invokespecial 9, 3) := by decide +kernel
theorem dX7_init_12 : decode cX7_init 12 = .ok (.putfield 10, 3) := by decide +kernel
theorem dX7_init_15 : decode cX7_init 15 = .ok (.aload_n 0, 1) := by decide +kernel
theorem dX7_init_16 : decode cX7_init 16 = .ok (.new 16, 3) := by decide +kernel
theorem dX7_init_19 : decode cX7_init 19 = .ok (.dup, 1) := by decide +kernel
theorem dX7_init_20 : decode cX7_init 20 = .ok (.invokespecial 18, 3) := by decide +kernel
theorem dX7_init_23 : decode cX7_init 23 = .ok (.putfield 19, 3) := by decide +kernel
theorem dX7_init_26 : decode cX7_init 26 = .ok (.aload_n 0, 1) := by decide +kernel
theorem dX7_init_27 : decode cX7_init 27 = .ok (.new 23, 3) := by decide +kernel
theorem dX7_init_30 : decode cX7_init 30 = .ok (.dup, 1) := by decide +kernel
theorem dX7_init_31 : decode cX7_init 31 = .ok (.invokespecial 25, 3) := by decide +kernel
theorem dX7_init_34 : decode cX7_init 34 = .ok (.putfield 26, 3) := by decide +kernel
theorem dX7_init_37 : decode cX7_init 37 = .ok (.aload_n 0, 1) := by decide +kernel
theorem dX7_init_38 : decode cX7_init 38 = .ok (.new 30, 3) := by decide +kernel
theorem dX7_init_41 : decode cX7_init 41 = .ok (.dup, 1) := by decide +kernel
theorem dX7_init_42 : decode cX7_init 42 = .ok (.invokespecial 32, 3) := by decide +kernel
theorem dX7_init_45 : decode cX7_init 45 = .ok (.putfield 33, 3) := by decide +kernel
theorem dX7_init_48 : decode cX7_init 48 = .ok (.aload_n 0, 1) := by decide +kernel
theorem dX7_init_49 : decode cX7_init 49 = .ok (.new 37, 3) := by decide +kernel
theorem dX7_init_52 : decode cX7_init 52 = .ok (.dup, 1) := by decide +kernel
theorem dX7_init_53 : decode cX7_init 53 = .ok (.invokespecial 39, 3) := by decide +kernel
theorem dX7_init_56 : decode cX7_init 56 = .ok (.putfield 40, 3) := by decide +kernel
theorem dX7_init_59 : decode cX7_init 59 = .ok (.aload_n 0, 1) := by decide +kernel
theorem dX7_init_60 : decode cX7_init 60 = .ok (.new 44, 3) := by decide +kernel
theorem dX7_init_63 : decode cX7_init 63 = .ok (.dup, 1) := by decide +kernel
theorem dX7_init_64 : decode cX7_init 64 = .ok (.invokespecial 46, 3) := by decide +kernel
theorem dX7_init_67 : decode cX7_init 67 = .ok (.putfield 47, 3) := by decide +kernel
theorem dX7_init_70 : decode cX7_init 70 = .ok (.aload_n 0, 1) := by decide +kernel
theorem dX7_init_71 : decode cX7_init 71 = .ok (.new 51, 3) := by decide +kernel
theorem dX7_init_74 : decode cX7_init 74 = .ok (.dup, 1) := by decide +kernel
theorem dX7_init_75 : decode cX7_init 75 = .ok (.invokespecial 53, 3) := by decide +kernel
theorem dX7_init_78 : decode cX7_init 78 = .ok (.putfield 54, 3) := by decide +kernel
theorem dX7_init_81 : decode cX7_init 81 = .ok (.aload_n 0, 1) := by decide +kernel
theorem dX7_init_82 : decode cX7_init 82 = .ok (.getfield 10, 3) := by decide +kernel
theorem dX7_init_85 : decode cX7_init 85 = .ok (.iconst 4, 1) := by decide +kernel
theorem dX7_init_86 : decode cX7_init 86 = .ok (.iconst 2, 1) := by decide +kernel
theorem dX7_init_87 : decode cX7_init 87 = .ok (.invokevirtual 58, 3) := by decide +kernel
theorem dX7_init_90 : decode cX7_init 90 = .ok (.return_, 1) := by decide +kernel
set_option maxRecDepth 20000 in
theorem ggX7_joint_X7_within : GoodIn wsX7_joint wsX7_within := goodIn_r _ [11] (by decide +kernel) (by decide +kernel)
set_option maxRecDepth 20000 in
theorem gX7_joint_X7_within : GoodIn wsX7_joint (va_wsS RX7 62 yX7_within wsX7_within) := goodIn_app (goodIn_of _ (by decide +kernel)) ggX7_joint_X7_within
set_option maxRecDepth 20000 in
theorem ggX7_joint_X2_begin : GoodIn wsX7_joint wsX2_begin := goodIn_r _ [16, 17, 18, 19, 20, 21, 22, 23, 24, 50, 51, 52, 53, 54, 55, 56, 57] (by decide +kernel) (by decide +kernel)
set_option maxRecDepth 20000 in
theorem gX7_joint_X2_begin : GoodIn wsX7_joint (wsV RX7 58 RX2 yX2_begin wsX2_begin) := goodIn_app (goodIn_of _ (by decide +kernel)) ggX7_joint_X2_begin
set_option maxRecDepth 20000 in
theorem ggX7_joint_X4_begin : GoodIn wsX7_joint wsX4_begin := goodIn_r _ [29, 30, 31, 32, 28, 33, 34, 58, 59] (by decide +kernel) (by decide +kernel)
set_option maxRecDepth 20000 in
theorem gX7_joint_X4_begin : GoodIn wsX7_joint (wsV RX7 71 RX4 yX4_begin wsX4_begin) := goodIn_app (goodIn_of _ (by decide +kernel)) ggX7_joint_X4_begin
theorem dX7_joint_0 : decode cX7_joint 0 = .ok (.iload_n 1, 1) := by decide +kernel
theorem dX7_joint_1 : decode cX7_joint 1 = .ok (.iconst 3, 1) := by decide +kernel
theorem dX7_joint_2 : decode cX7_joint 2 = .ok (.bipush 6, 2) := by decide +kernel
theorem dX7_joint_4 : decode cX7_joint 4 = .ok (.invokestatic 62, 3) := by decide +kernel
theorem dX7_joint_7 : decode cX7_joint 7 = .ok (.ifCond .eq 13, 3) := by decide +kernel
theorem dX7_joint_10 : decode cX7_joint 10 = .ok (.iload_n 2, 1) := by decide +kernel
theorem dX7_joint_11 : decode cX7_joint 11 = .ok (.iconst 1, 1) := by decide +kernel
theorem dX7_joint_12 : decode cX7_joint 12 = .ok (.bipush 9, 2) := by decide +kernel
theorem dX7_joint_14 : decode cX7_joint 14 = .ok (.invokestatic 62, 3) := by decide +kernel
theorem dX7_joint_17 : decode cX7_joint 17 = .ok (.ifCond .ne 6, 3) := by decide +kernel
theorem dX7_joint_20 : decode cX7_joint 20 = .ok (.ldc 66, 2) := by decide +kernel
theorem dX7_joint_22 : decode cX7_joint 22 = .ok (.ireturn, 1) := by decide +kernel
theorem dX7_joint_23 : decode cX7_joint 23 = .ok (.aload_n 0, 1) := by decide +kernel
theorem dX7_joint_24 : decode cX7_joint 24 = .ok (.getfield 10, 3) := by decide +kernel
theorem dX7_joint_27 : decode cX7_joint 27 = .ok (.iload_n 1, 1) := by decide +kernel
theorem dX7_joint_28 : decode cX7_joint 28 = .ok (.iload_n 2, 1) := by decide +kernel
theorem dX7_joint_29 : decode cX7_joint 29 = .ok (.invokevirtual 58, 3) := by decide +kernel
theorem dX7_joint_32 : decode cX7_joint 32 = .ok (.aload_n 0, 1) := by decide +kernel
theorem dX7_joint_33 : decode cX7_joint 33 = .ok (.getfield 33, 3) := by decide +kernel
theorem dX7_joint_36 : decode cX7_joint 36 = .ok (.iconst 0, 1) := by decide +kernel
theorem dX7_joint_37 : decode cX7_joint 37 = .ok (.putfield 67, 3) := by decide +kernel
theorem dX7_joint_40 : decode cX7_joint 40 = .ok (.aload_n 0, 1) := by decide +kernel
theorem dX7_joint_41 : decode cX7_joint 41 = .ok (.getfield 40, 3) := by decide +kernel
theorem dX7_joint_44 : decode cX7_joint 44 = .ok (.invokevirtual 71, 3) := by decide +kernel
theorem dX7_joint_47 : decode cX7_joint 47 = .ok (.aload_n 0, 1) := by decide +kernel
theorem dX7_joint_48 : decode cX7_joint 48 = .ok (.getfield 47, 3) := by decide +kernel
theorem dX7_joint_51 : decode cX7_joint 51 = .ok (.iconst 0, 1) := by decide +kernel
theorem dX7_joint_52 : decode cX7_joint 52 = .ok (.putfield 73, 3) := by decide +kernel
theorem dX7_joint_55 : decode cX7_joint 55 = .ok (.iload_n 1, 1) := by decide +kernel
theorem dX7_joint_56 : decode cX7_joint 56 = .ok (.ireturn, 1) := by decide +kernel
set_option maxRecDepth 20000 in
theorem ggX7_set_X2_has : GoodIn wsX7_set wsX2_has := goodIn_r _ [8, 9, 36, 37, 38, 39, 40, 41, 42, 43] (by decide +kernel) (by decide +kernel)
set_option maxRecDepth 20000 in
theorem gX7_set_X2_has : GoodIn wsX7_set (wsV RX7 76 RX2 yX2_has wsX2_has) := goodIn_app (goodIn_of _ (by decide +kernel)) ggX7_set_X2_has
set_option maxRecDepth 20000 in
theorem ggX7_set_X7_within : GoodIn wsX7_set wsX7_within := goodIn_r _ [13] (by decide +kernel) (by decide +kernel)
set_option maxRecDepth 20000 in
theorem gX7_set_X7_within : GoodIn wsX7_set (va_wsS RX7 62 yX7_within wsX7_within) := goodIn_app (goodIn_of _ (by decide +kernel)) ggX7_set_X7_within
set_option maxRecDepth 20000 in
theorem ggX7_set_X7_leastOf : GoodIn wsX7_set wsX7_leastOf := goodIn_r _ [16] (by decide +kernel) (by decide +kernel)
set_option maxRecDepth 20000 in
theorem gX7_set_X7_leastOf : GoodIn wsX7_set (va_wsS RX7 81 yX7_leastOf wsX7_leastOf) := goodIn_app (goodIn_of _ (by decide +kernel)) ggX7_set_X7_leastOf
set_option maxRecDepth 20000 in
theorem ggX7_set_X7_mostOf : GoodIn wsX7_set wsX7_mostOf := goodIn_r _ [19] (by decide +kernel) (by decide +kernel)
set_option maxRecDepth 20000 in
theorem gX7_set_X7_mostOf : GoodIn wsX7_set (va_wsS RX7 85 yX7_mostOf wsX7_mostOf) := goodIn_app (goodIn_of _ (by decide +kernel)) ggX7_set_X7_mostOf
set_option maxRecDepth 20000 in
theorem ggX7_set_X2_valuesOf : GoodIn wsX7_set wsX2_valuesOf := goodIn_r _ [23, 24, 25, 26, 27, 36, 37, 38, 39, 40, 41, 42, 43] (by decide +kernel) (by decide +kernel)
set_option maxRecDepth 20000 in
theorem gX7_set_X2_valuesOf : GoodIn wsX7_set (wsV RX7 88 RX2 yX2_valuesOf wsX2_valuesOf) := goodIn_app (goodIn_of _ (by decide +kernel)) ggX7_set_X2_valuesOf
theorem dX7_set_0 : decode cX7_set 0 = .ok (.aload_n 0, 1) := by decide +kernel
theorem dX7_set_1 : decode cX7_set 1 = .ok (.getfield 10, 3) := by decide +kernel
theorem dX7_set_4 : decode cX7_set 4 = .ok (.iload_n 1, 1) := by decide +kernel
theorem dX7_set_5 : decode cX7_set 5 = .ok (.invokevirtual 76, 3) := by decide +kernel
theorem dX7_set_8 : decode cX7_set 8 = .ok (.ifCond .ne 6, 3) := by decide +kernel
theorem dX7_set_11 : decode cX7_set 11 = .ok (.ldc 80, 2) := by decide +kernel
theorem dX7_set_13 : decode cX7_set 13 = .ok (.ireturn, 1) := by decide +kernel
theorem dX7_set_14 : decode cX7_set 14 = .ok (.iload_n 2, 1) := by decide +kernel
theorem dX7_set_15 : decode cX7_set 15 = .ok (.iconst 0, 1) := by decide +kernel
theorem dX7_set_16 : decode cX7_set 16 = .ok (.iconst 3, 1) := by decide +kernel
theorem dX7_set_17 : decode cX7_set 17 = .ok (.invokestatic 62, 3) := by decide +kernel
theorem dX7_set_20 : decode cX7_set 20 = .ok (.ifCond .eq 18, 3) := by decide +kernel
theorem dX7_set_23 : decode cX7_set 23 = .ok (.iload_n 3, 1) := by decide +kernel
theorem dX7_set_24 : decode cX7_set 24 = .ok (.iload_n 2, 1) := by decide +kernel
theorem dX7_set_25 : decode cX7_set 25 = .ok (.invokestatic 81, 3) := by decide +kernel
theorem dX7_set_28 : decode cX7_set 28 = .ok (.iload_n 2, 1) := by decide +kernel
theorem dX7_set_29 : decode cX7_set 29 = .ok (.invokestatic 85, 3) := by decide +kernel
theorem dX7_set_32 : decode cX7_set 32 = .ok (.invokestatic 62, 3) := by decide +kernel
theorem dX7_set_35 : decode cX7_set 35 = .ok (.ifCond .ne 6, 3) := by decide +kernel
theorem dX7_set_38 : decode cX7_set 38 = .ok (.ldc 66, 2) := by decide +kernel
theorem dX7_set_40 : decode cX7_set 40 = .ok (.ireturn, 1) := by decide +kernel
theorem dX7_set_41 : decode cX7_set 41 = .ok (.aload_n 0, 1) := by decide +kernel
theorem dX7_set_42 : decode cX7_set 42 = .ok (.getfield 10, 3) := by decide +kernel
theorem dX7_set_45 : decode cX7_set 45 = .ok (.iload_n 2, 1) := by decide +kernel
theorem dX7_set_46 : decode cX7_set 46 = .ok (.invokevirtual 88, 3) := by decide +kernel
theorem dX7_set_49 : decode cX7_set 49 = .ok (.astore 4, 2) := by decide +kernel
theorem dX7_set_51 : decode cX7_set 51 = .ok (.aload 4, 2) := by decide +kernel
theorem dX7_set_53 : decode cX7_set 53 = .ok (.iload_n 1, 1) := by decide +kernel
theorem dX7_set_54 : decode cX7_set 54 = .ok (.iaload, 1) := by decide +kernel
theorem dX7_set_55 : decode cX7_set 55 = .ok (.istore 5, 2) := by decide +kernel
theorem dX7_set_57 : decode cX7_set 57 = .ok (.aload 4, 2) := by decide +kernel
theorem dX7_set_59 : decode cX7_set 59 = .ok (.iload_n 1, 1) := by decide +kernel
theorem dX7_set_60 : decode cX7_set 60 = .ok (.iload_n 3, 1) := by decide +kernel
theorem dX7_set_61 : decode cX7_set 61 = .ok (.iastore, 1) := by decide +kernel
theorem dX7_set_62 : decode cX7_set 62 = .ok (.iload 5, 2) := by decide +kernel
theorem dX7_set_64 : decode cX7_set 64 = .ok (.ireturn, 1) := by decide +kernel
set_option maxRecDepth 20000 in
theorem ggX7_broken_X2_has : GoodIn wsX7_broken wsX2_has := goodIn_r _ [8, 9, 42, 43, 44, 45, 46, 47, 48, 49] (by decide +kernel) (by decide +kernel)
set_option maxRecDepth 20000 in
theorem gX7_broken_X2_has : GoodIn wsX7_broken (wsV RX7 76 RX2 yX2_has wsX2_has) := goodIn_app (goodIn_of _ (by decide +kernel)) ggX7_broken_X2_has
set_option maxRecDepth 20000 in
theorem ggX7_broken_X2_isBroken : GoodIn wsX7_broken wsX2_isBroken := goodIn_r _ [13, 14, 42, 43, 44, 45, 46, 47, 48, 49] (by decide +kernel) (by decide +kernel)
set_option maxRecDepth 20000 in
theorem gX7_broken_X2_isBroken : GoodIn wsX7_broken (wsV RX7 92 RX2 yX2_isBroken wsX2_isBroken) := goodIn_app (goodIn_of _ (by decide +kernel)) ggX7_broken_X2_isBroken
set_option maxRecDepth 20000 in
theorem ggX7_broken_X2_wholeCount : GoodIn wsX7_broken wsX2_wholeCount := goodIn_r _ [18, 9, 14, 19, 20, 21, 22, 23, 24, 25, 42, 43, 44, 45, 46, 47, 48, 49] (by decide +kernel) (by decide +kernel)
set_option maxRecDepth 20000 in
theorem gX7_broken_X2_wholeCount : GoodIn wsX7_broken (wsV RX7 95 RX2 yX2_wholeCount wsX2_wholeCount) := goodIn_app (goodIn_of _ (by decide +kernel)) ggX7_broken_X2_wholeCount
set_option maxRecDepth 20000 in
theorem ggX7_broken_X2_markBroken : GoodIn wsX7_broken wsX2_markBroken := goodIn_r _ [29, 14, 42, 43, 44, 45, 46, 47, 48, 49] (by decide +kernel) (by decide +kernel)
set_option maxRecDepth 20000 in
theorem gX7_broken_X2_markBroken : GoodIn wsX7_broken (wsV RX7 100 RX2 yX2_markBroken wsX2_markBroken) := goodIn_app (goodIn_of _ (by decide +kernel)) ggX7_broken_X2_markBroken
set_option maxRecDepth 20000 in
theorem ggX7_broken_X7_asNumber : GoodIn wsX7_broken wsX7_asNumber := goodIn_r _ [33] (by decide +kernel) (by decide +kernel)
set_option maxRecDepth 20000 in
theorem gX7_broken_X7_asNumber : GoodIn wsX7_broken (va_wsS RX7 104 yX7_asNumber wsX7_asNumber) := goodIn_app (goodIn_of _ (by decide +kernel)) ggX7_broken_X7_asNumber
theorem dX7_broken_0 : decode cX7_broken 0 = .ok (.aload_n 0, 1) := by decide +kernel
theorem dX7_broken_1 : decode cX7_broken 1 = .ok (.getfield 10, 3) := by decide +kernel
theorem dX7_broken_4 : decode cX7_broken 4 = .ok (.iload_n 1, 1) := by decide +kernel
theorem dX7_broken_5 : decode cX7_broken 5 = .ok (.invokevirtual 76, 3) := by decide +kernel
theorem dX7_broken_8 : decode cX7_broken 8 = .ok (.ifCond .ne 6, 3) := by decide +kernel
theorem dX7_broken_11 : decode cX7_broken 11 = .ok (.ldc 80, 2) := by decide +kernel
theorem dX7_broken_13 : decode cX7_broken 13 = .ok (.ireturn, 1) := by decide +kernel
theorem dX7_broken_14 : decode cX7_broken 14 = .ok (.aload_n 0, 1) := by decide +kernel
theorem dX7_broken_15 : decode cX7_broken 15 = .ok (.getfield 10, 3) := by decide +kernel
theorem dX7_broken_18 : decode cX7_broken 18 = .ok (.iload_n 1, 1) := by decide +kernel
theorem dX7_broken_19 : decode cX7_broken 19 = .ok (.invokevirtual 92, 3) := by decide +kernel
theorem dX7_broken_22 : decode cX7_broken 22 = .ok (.istore_n 3, 1) := by decide +kernel
theorem dX7_broken_23 : decode cX7_broken 23 = .ok (.iload_n 2, 1) := by decide +kernel
theorem dX7_broken_24 : decode cX7_broken 24 = .ok (.ifCond .eq 21, 3) := by decide +kernel
theorem dX7_broken_27 : decode cX7_broken 27 = .ok (.iload_n 3, 1) := by decide +kernel
theorem dX7_broken_28 : decode cX7_broken 28 = .ok (.ifCond .ne 17, 3) := by decide +kernel
theorem dX7_broken_31 : decode cX7_broken 31 = .ok (.aload_n 0, 1) := by decide +kernel
theorem dX7_broken_32 : decode cX7_broken 32 = .ok (.getfield 10, 3) := by decide +kernel
theorem dX7_broken_35 : decode cX7_broken 35 = .ok (.invokevirtual 95, 3) := by decide +kernel
theorem dX7_broken_38 : decode cX7_broken 38 = .ok (.iconst 1, 1) := by decide +kernel
theorem dX7_broken_39 : decode cX7_broken 39 = .ok (.if_icmp .ne 6, 3) := by decide +kernel
theorem dX7_broken_42 : decode cX7_broken 42 = .ok (.ldc 99, 2) := by decide +kernel
theorem dX7_broken_44 : decode cX7_broken 44 = .ok (.ireturn, 1) := by decide +kernel
theorem dX7_broken_45 : decode cX7_broken 45 = .ok (.aload_n 0, 1) := by decide +kernel
theorem dX7_broken_46 : decode cX7_broken 46 = .ok (.getfield 10, 3) := by decide +kernel
theorem dX7_broken_49 : decode cX7_broken 49 = .ok (.iload_n 1, 1) := by decide +kernel
theorem dX7_broken_50 : decode cX7_broken 50 = .ok (.iload_n 2, 1) := by decide +kernel
theorem dX7_broken_51 : decode cX7_broken 51 = .ok (.invokevirtual 100, 3) := by decide +kernel
theorem dX7_broken_54 : decode cX7_broken 54 = .ok (.iload_n 3, 1) := by decide +kernel
theorem dX7_broken_55 : decode cX7_broken 55 = .ok (.invokestatic 104, 3) := by decide +kernel
theorem dX7_broken_58 : decode cX7_broken 58 = .ok (.ireturn, 1) := by decide +kernel
set_option maxRecDepth 20000 in
theorem ggX7_told_X2_has : GoodIn wsX7_told wsX2_has := goodIn_r _ [10, 11, 101, 102, 103, 104, 105, 106, 107, 108] (by decide +kernel) (by decide +kernel)
set_option maxRecDepth 20000 in
theorem gX7_told_X2_has : GoodIn wsX7_told (wsV RX7 76 RX2 yX2_has wsX2_has) := goodIn_app (goodIn_of _ (by decide +kernel)) ggX7_told_X2_has
set_option maxRecDepth 20000 in
theorem ggX7_told_X2_valuesOf : GoodIn wsX7_told wsX2_valuesOf := goodIn_r _ [15, 16, 17, 18, 19, 101, 102, 103, 104, 105, 106, 107, 108] (by decide +kernel) (by decide +kernel)
set_option maxRecDepth 20000 in
theorem gX7_told_X2_valuesOf : GoodIn wsX7_told (wsV RX7 88 RX2 yX2_valuesOf wsX2_valuesOf) := goodIn_app (goodIn_of _ (by decide +kernel)) ggX7_told_X2_valuesOf
set_option maxRecDepth 20000 in
theorem ggX7_told_X2_isBroken : GoodIn wsX7_told wsX2_isBroken := goodIn_r _ [23, 24, 101, 102, 103, 104, 105, 106, 107, 108] (by decide +kernel) (by decide +kernel)
set_option maxRecDepth 20000 in
theorem gX7_told_X2_isBroken : GoodIn wsX7_told (wsV RX7 92 RX2 yX2_isBroken wsX2_isBroken) := goodIn_app (goodIn_of _ (by decide +kernel)) ggX7_told_X2_isBroken
set_option maxRecDepth 20000 in
theorem ggX7_told_X7_asNumber : GoodIn wsX7_told wsX7_asNumber := goodIn_r _ [28] (by decide +kernel) (by decide +kernel)
set_option maxRecDepth 20000 in
theorem gX7_told_X7_asNumber : GoodIn wsX7_told (va_wsS RX7 104 yX7_asNumber wsX7_asNumber) := goodIn_app (goodIn_of _ (by decide +kernel)) ggX7_told_X7_asNumber
set_option maxRecDepth 20000 in
theorem ggX7_told_X3_settle : GoodIn wsX7_told wsX3_settle := goodIn_r _ [33, 34, 35, 36, 32, 37, 38, 39, 40, 41, 42, 43, 44, 9, 45, 11, 46, 47, 48, 49, 50, 51, 52, 53, 54, 55, 56, 57, 58, 59, 60, 61, 62, 63, 64, 65, 66, 67, 68, 69, 70, 71, 72, 73, 74, 101, 102, 103, 104, 105, 106, 107, 108, 109, 110, 111, 112, 113, 114] (by decide +kernel) (by decide +kernel)
set_option maxRecDepth 20000 in
theorem gX7_told_X3_settle : GoodIn wsX7_told (wsV RX7 112 RX3 yX3_settle wsX3_settle) := goodIn_app (goodIn_of _ (by decide +kernel)) ggX7_told_X3_settle
set_option maxRecDepth 20000 in
theorem ggX7_told_X3_pullUpper : GoodIn wsX7_told wsX3_pullUpper := goodIn_r _ [78, 51, 65, 52, 66, 79, 80, 81, 82, 83, 21, 22, 9, 23, 24, 101, 102, 103, 104, 105, 106, 107, 108, 109, 110, 111, 112, 113, 114] (by decide +kernel) (by decide +kernel)
set_option maxRecDepth 20000 in
theorem gX7_told_X3_pullUpper : GoodIn wsX7_told (wsV RX7 116 RX3 yX3_pullUpper wsX3_pullUpper) := goodIn_app (goodIn_of _ (by decide +kernel)) ggX7_told_X3_pullUpper
set_option maxRecDepth 20000 in
theorem ggX7_told_X3_pressUpper : GoodIn wsX7_told wsX3_pressUpper := goodIn_r _ [87, 53, 66, 79, 80, 81, 82, 101, 102, 103, 104, 105, 106, 107, 108, 109, 110, 111, 112, 113, 114] (by decide +kernel) (by decide +kernel)
set_option maxRecDepth 20000 in
theorem gX7_told_X3_pressUpper : GoodIn wsX7_told (wsV RX7 120 RX3 yX3_pressUpper wsX3_pressUpper) := goodIn_app (goodIn_of _ (by decide +kernel)) ggX7_told_X3_pressUpper
set_option maxRecDepth 20000 in
theorem ggX7_told_X2_placeInRow : GoodIn wsX7_told wsX2_placeInRow := goodIn_r _ [91, 11, 92, 101, 102, 103, 104, 105, 106, 107, 108] (by decide +kernel) (by decide +kernel)
set_option maxRecDepth 20000 in
theorem gX7_told_X2_placeInRow : GoodIn wsX7_told (wsV RX7 123 RX2 yX2_placeInRow wsX2_placeInRow) := goodIn_app (goodIn_of _ (by decide +kernel)) ggX7_told_X2_placeInRow
theorem dX7_told_0 : decode cX7_told 0 = .ok (.aload_n 0, 1) := by decide +kernel
theorem dX7_told_1 : decode cX7_told 1 = .ok (.getfield 10, 3) := by decide +kernel
theorem dX7_told_4 : decode cX7_told 4 = .ok (.iload_n 1, 1) := by decide +kernel
theorem dX7_told_5 : decode cX7_told 5 = .ok (.invokevirtual 76, 3) := by decide +kernel
theorem dX7_told_8 : decode cX7_told 8 = .ok (.ifCond .ne 6, 3) := by decide +kernel
theorem dX7_told_11 : decode cX7_told 11 = .ok (.ldc 80, 2) := by decide +kernel
theorem dX7_told_13 : decode cX7_told 13 = .ok (.ireturn, 1) := by decide +kernel
theorem dX7_told_14 : decode cX7_told 14 = .ok (.iload_n 2, 1) := by decide +kernel
theorem dX7_told_15 : decode cX7_told 15 = .ok (.tableswitch 165 0 7 #[45, 45, 45, 45, 56, 68, 112, 156], 45) := by decide +kernel
theorem dX7_told_60 : decode cX7_told 60 = .ok (.aload_n 0, 1) := by decide +kernel
theorem dX7_told_61 : decode cX7_told 61 = .ok (.getfield 10, 3) := by decide +kernel
theorem dX7_told_64 : decode cX7_told 64 = .ok (.iload_n 2, 1) := by decide +kernel
theorem dX7_told_65 : decode cX7_told 65 = .ok (.invokevirtual 88, 3) := by decide +kernel
theorem dX7_told_68 : decode cX7_told 68 = .ok (.iload_n 1, 1) := by decide +kernel
theorem dX7_told_69 : decode cX7_told 69 = .ok (.iaload, 1) := by decide +kernel
theorem dX7_told_70 : decode cX7_told 70 = .ok (.ireturn, 1) := by decide +kernel
theorem dX7_told_71 : decode cX7_told 71 = .ok (.aload_n 0, 1) := by decide +kernel
theorem dX7_told_72 : decode cX7_told 72 = .ok (.getfield 10, 3) := by decide +kernel
theorem dX7_told_75 : decode cX7_told 75 = .ok (.iload_n 1, 1) := by decide +kernel
theorem dX7_told_76 : decode cX7_told 76 = .ok (.invokevirtual 92, 3) := by decide +kernel
theorem dX7_told_79 : decode cX7_told 79 = .ok (.invokestatic 104, 3) := by decide +kernel
theorem dX7_told_82 : decode cX7_told 82 = .ok (.ireturn, 1) := by decide +kernel
theorem dX7_told_83 : decode cX7_told 83 = .ok (.aload_n 0, 1) := by decide +kernel
theorem dX7_told_84 : decode cX7_told 84 = .ok (.getfield 19, 3) := by decide +kernel
theorem dX7_told_87 : decode cX7_told 87 = .ok (.aload_n 0, 1) := by decide +kernel
theorem dX7_told_88 : decode cX7_told 88 = .ok (.getfield 10, 3) := by decide +kernel
theorem dX7_told_91 : decode cX7_told 91 = .ok (.aload_n 0, 1) := by decide +kernel
theorem dX7_told_92 : decode cX7_told 92 = .ok (.getfield 10, 3) := by decide +kernel
theorem dX7_told_95 : decode cX7_told 95 = .ok (.getfield 108, 3) := by decide +kernel
theorem dX7_told_98 : decode cX7_told 98 = .ok (.invokevirtual 112, 3) := by decide +kernel
theorem dX7_told_101 : decode cX7_told 101 = .ok (.aload_n 0, 1) := by decide +kernel
theorem dX7_told_102 : decode cX7_told 102 = .ok (.getfield 19, 3) := by decide +kernel
theorem dX7_told_105 : decode cX7_told 105 = .ok (.aload_n 0, 1) := by decide +kernel
theorem dX7_told_106 : decode cX7_told 106 = .ok (.getfield 10, 3) := by decide +kernel
theorem dX7_told_109 : decode cX7_told 109 = .ok (.iload_n 1, 1) := by decide +kernel
theorem dX7_told_110 : decode cX7_told 110 = .ok (.invokevirtual 116, 3) := by decide +kernel
theorem dX7_told_113 : decode cX7_told 113 = .ok (.lconst 0, 1) := by decide +kernel
theorem dX7_told_114 : decode cX7_told 114 = .ok (.lcmp, 1) := by decide +kernel
theorem dX7_told_115 : decode cX7_told 115 = .ok (.ifCond .ne 7, 3) := by decide +kernel
theorem dX7_told_118 : decode cX7_told 118 = .ok (.iconst 1, 1) := by decide +kernel
theorem dX7_told_119 : decode cX7_told 119 = .ok (.goto 4, 3) := by decide +kernel
theorem dX7_told_122 : decode cX7_told 122 = .ok (.iconst 0, 1) := by decide +kernel
theorem dX7_told_123 : decode cX7_told 123 = .ok (.invokestatic 104, 3) := by decide +kernel
theorem dX7_told_126 : decode cX7_told 126 = .ok (.ireturn, 1) := by decide +kernel
theorem dX7_told_127 : decode cX7_told 127 = .ok (.aload_n 0, 1) := by decide +kernel
theorem dX7_told_128 : decode cX7_told 128 = .ok (.getfield 19, 3) := by decide +kernel
theorem dX7_told_131 : decode cX7_told 131 = .ok (.aload_n 0, 1) := by decide +kernel
theorem dX7_told_132 : decode cX7_told 132 = .ok (.getfield 10, 3) := by decide +kernel
theorem dX7_told_135 : decode cX7_told 135 = .ok (.aload_n 0, 1) := by decide +kernel
theorem dX7_told_136 : decode cX7_told 136 = .ok (.getfield 10, 3) := by decide +kernel
theorem dX7_told_139 : decode cX7_told 139 = .ok (.getfield 108, 3) := by decide +kernel
theorem dX7_told_142 : decode cX7_told 142 = .ok (.invokevirtual 112, 3) := by decide +kernel
theorem dX7_told_145 : decode cX7_told 145 = .ok (.aload_n 0, 1) := by decide +kernel
theorem dX7_told_146 : decode cX7_told 146 = .ok (.getfield 19, 3) := by decide +kernel
theorem dX7_told_149 : decode cX7_told 149 = .ok (.aload_n 0, 1) := by decide +kernel
theorem dX7_told_150 : decode cX7_told 150 = .ok (.getfield 10, 3) := by decide +kernel
theorem dX7_told_153 : decode cX7_told 153 = .ok (.iload_n 1, 1) := by decide +kernel
theorem dX7_told_154 : decode cX7_told 154 = .ok (.invokevirtual 120, 3) := by decide +kernel
theorem dX7_told_157 : decode cX7_told 157 = .ok (.lconst 0, 1) := by decide +kernel
theorem dX7_told_158 : decode cX7_told 158 = .ok (.lcmp, 1) := by decide +kernel
theorem dX7_told_159 : decode cX7_told 159 = .ok (.ifCond .ne 7, 3) := by decide +kernel
theorem dX7_told_162 : decode cX7_told 162 = .ok (.iconst 1, 1) := by decide +kernel
theorem dX7_told_163 : decode cX7_told 163 = .ok (.goto 4, 3) := by decide +kernel
theorem dX7_told_166 : decode cX7_told 166 = .ok (.iconst 0, 1) := by decide +kernel
theorem dX7_told_167 : decode cX7_told 167 = .ok (.invokestatic 104, 3) := by decide +kernel
theorem dX7_told_170 : decode cX7_told 170 = .ok (.ireturn, 1) := by decide +kernel
theorem dX7_told_171 : decode cX7_told 171 = .ok (.aload_n 0, 1) := by decide +kernel
theorem dX7_told_172 : decode cX7_told 172 = .ok (.getfield 10, 3) := by decide +kernel
theorem dX7_told_175 : decode cX7_told 175 = .ok (.iload_n 1, 1) := by decide +kernel
theorem dX7_told_176 : decode cX7_told 176 = .ok (.invokevirtual 123, 3) := by decide +kernel
theorem dX7_told_179 : decode cX7_told 179 = .ok (.ireturn, 1) := by decide +kernel
theorem dX7_told_180 : decode cX7_told 180 = .ok (.ldc 66, 2) := by decide +kernel
theorem dX7_told_182 : decode cX7_told 182 = .ok (.ireturn, 1) := by decide +kernel
set_option maxRecDepth 20000 in
theorem ggX7_force_X2_has : GoodIn wsX7_force wsX2_has := goodIn_r _ [12, 13, 98, 99, 100, 101, 102, 103, 104, 105] (by decide +kernel) (by decide +kernel)
set_option maxRecDepth 20000 in
theorem gX7_force_X2_has : GoodIn wsX7_force (wsV RX7 76 RX2 yX2_has wsX2_has) := goodIn_app (goodIn_of _ (by decide +kernel)) ggX7_force_X2_has
set_option maxRecDepth 20000 in
theorem ggX7_force_X7_within : GoodIn wsX7_force wsX7_within := goodIn_r _ [17] (by decide +kernel) (by decide +kernel)
set_option maxRecDepth 20000 in
theorem gX7_force_X7_within : GoodIn wsX7_force (va_wsS RX7 62 yX7_within wsX7_within) := goodIn_app (goodIn_of _ (by decide +kernel)) ggX7_force_X7_within
set_option maxRecDepth 20000 in
theorem ggX7_force_X3_settle : GoodIn wsX7_force wsX3_settle := goodIn_r _ [22, 23, 24, 25, 21, 26, 27, 28, 29, 30, 31, 32, 33, 11, 34, 13, 35, 36, 37, 38, 39, 40, 41, 42, 43, 44, 45, 46, 47, 48, 49, 50, 51, 52, 53, 54, 55, 56, 57, 58, 59, 60, 61, 62, 63, 98, 99, 100, 101, 102, 103, 104, 105, 106, 107, 108, 109, 110, 111] (by decide +kernel) (by decide +kernel)
set_option maxRecDepth 20000 in
theorem gX7_force_X3_settle : GoodIn wsX7_force (wsV RX7 112 RX3 yX3_settle wsX3_settle) := goodIn_app (goodIn_of _ (by decide +kernel)) ggX7_force_X3_settle
set_option maxRecDepth 20000 in
theorem ggX7_force_X3_pullUpper : GoodIn wsX7_force wsX3_pullUpper := goodIn_r _ [67, 40, 54, 41, 55, 68, 69, 70, 71, 72, 73, 74, 11, 75, 76, 98, 99, 100, 101, 102, 103, 104, 105, 106, 107, 108, 109, 110, 111] (by decide +kernel) (by decide +kernel)
set_option maxRecDepth 20000 in
theorem gX7_force_X3_pullUpper : GoodIn wsX7_force (wsV RX7 116 RX3 yX3_pullUpper wsX3_pullUpper) := goodIn_app (goodIn_of _ (by decide +kernel)) ggX7_force_X3_pullUpper
set_option maxRecDepth 20000 in
theorem ggX7_force_X3_pressUpper : GoodIn wsX7_force wsX3_pressUpper := goodIn_r _ [80, 42, 55, 68, 69, 70, 71, 98, 99, 100, 101, 102, 103, 104, 105, 106, 107, 108, 109, 110, 111] (by decide +kernel) (by decide +kernel)
set_option maxRecDepth 20000 in
theorem gX7_force_X3_pressUpper : GoodIn wsX7_force (wsV RX7 120 RX3 yX3_pressUpper wsX3_pressUpper) := goodIn_app (goodIn_of _ (by decide +kernel)) ggX7_force_X3_pressUpper
set_option maxRecDepth 20000 in
theorem ggX7_force_X7_leastTerm : GoodIn wsX7_force wsX7_leastTerm := goodIn_r _ [83, 84, 85, 70, 86, 87, 88, 16, 89] (by decide +kernel) (by decide +kernel)
set_option maxRecDepth 20000 in
theorem gX7_force_X7_leastTerm : GoodIn wsX7_force (va_wsS RX7 138 yX7_leastTerm wsX7_leastTerm) := goodIn_app (goodIn_of _ (by decide +kernel)) ggX7_force_X7_leastTerm
theorem dX7_force_0 : decode cX7_force 0 = .ok (.aload_n 0, 1) := by decide +kernel
