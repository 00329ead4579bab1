theorem dX4_weigh_7 : decode cX4_weigh 7 = .ok (.aload_n 0, 1) := by decide +kernel
theorem dX4_weigh_8 : decode cX4_weigh 8 = .ok (.getfield 9, 3) := by decide +kernel
theorem dX4_weigh_11 : decode cX4_weigh 11 = .ok (.iconst 1, 1) := by decide +kernel
theorem dX4_weigh_12 : decode cX4_weigh 12 = .ok (.iload_n 2, 1) := by decide +kernel
theorem dX4_weigh_13 : decode cX4_weigh 13 = .ok (.iastore, 1) := by decide +kernel
theorem dX4_weigh_14 : decode cX4_weigh 14 = .ok (.aload_n 0, 1) := by decide +kernel
theorem dX4_weigh_15 : decode cX4_weigh 15 = .ok (.getfield 9, 3) := by decide +kernel
theorem dX4_weigh_18 : decode cX4_weigh 18 = .ok (.iconst 2, 1) := by decide +kernel
theorem dX4_weigh_19 : decode cX4_weigh 19 = .ok (.iload_n 3, 1) := by decide +kernel
theorem dX4_weigh_20 : decode cX4_weigh 20 = .ok (.iastore, 1) := by decide +kernel
theorem dX4_weigh_21 : decode cX4_weigh 21 = .ok (.return_, 1) := by decide +kernel
theorem dX5_init_0 : decode cX5_init 0 = .ok (.aload_n 0, 1) := by decide +kernel
theorem dX5_init_1 : decode cX5_init 1 = .ok (.invokespecial 3, 3) := by decide +kernel
theorem dX5_init_4 : decode cX5_init 4 = .ok (.aload_n 0, 1) := by decide +kernel
theorem dX5_init_5 : decode cX5_init 5 = .ok (.iconst (-1), 1) := by decide +kernel
theorem dX5_init_6 : decode cX5_init 6 = .ok (.putfield 9, 3) := by decide +kernel
theorem dX5_init_9 : decode cX5_init 9 = .ok (.aload_n 0, 1) := by decide +kernel
theorem dX5_init_10 : decode cX5_init 10 = .ok (.bipush 12, 2) := by decide +kernel
theorem dX5_init_12 : decode cX5_init 12 = .ok (.newarray .int, 2) := by decide +kernel
theorem dX5_init_14 : decode cX5_init 14 = .ok (.putfield 15, 3) := by decide +kernel
theorem dX5_init_17 : decode cX5_init 17 = .ok (.aload_n 0, 1) := by decide +kernel
theorem dX5_init_18 : decode cX5_init 18 = .ok (.bipush 12, 2) := by decide +kernel
theorem dX5_init_20 : decode cX5_init 20 = .ok (.newarray .int, 2) := by decide +kernel
theorem dX5_init_22 : decode cX5_init 22 = .ok (.putfield 19, 3) := by decide +kernel
theorem dX5_init_25 : decode cX5_init 25 = .ok (.aload_n 0, 1) := by decide +kernel
theorem dX5_init_26 : decode cX5_init 26 = .ok (.bipush 12, 2) := by decide +kernel
theorem dX5_init_28 : decode cX5_init 28 = .ok (.newarray .int, 2) := by decide +kernel
theorem dX5_init_30 : decode cX5_init 30 = .ok (.putfield 22, 3) := by decide +kernel
theorem dX5_init_33 : decode cX5_init 33 = .ok (.aload_n 0, 1) := by decide +kernel
theorem dX5_init_34 : decode cX5_init 34 = .ok (.sipush 160, 3) := by decide +kernel
theorem dX5_init_37 : decode cX5_init 37 = .ok (.newarray .int, 2) := by decide +kernel
theorem dX5_init_39 : decode cX5_init 39 = .ok (.putfield 25, 3) := by decide +kernel
theorem dX5_init_42 : decode cX5_init 42 = .ok (.return_, 1) := by decide +kernel
theorem dX6_init_0 : decode cX6_init 0 = .ok (.aload_n 0, 1) := by decide +kernel
theorem dX6_init_1 : decode cX6_init 1 = .ok (.invokespecial 3, 3) := by decide +kernel
theorem dX6_init_4 : decode cX6_init 4 = .ok (.aload_n 0, 1) := by decide +kernel
theorem dX6_init_5 : decode cX6_init 5 = .ok (.bipush 6, 2) := by decide +kernel
theorem dX6_init_7 : decode cX6_init 7 = .ok (.newarray .int, 2) := by decide +kernel
theorem dX6_init_9 : decode cX6_init 9 = .ok (.putfield 9, 3) := by decide +kernel
theorem dX6_init_12 : decode cX6_init 12 = .ok (.aload_n 0, 1) := by decide +kernel
theorem dX6_init_13 : decode cX6_init 13 = .ok (.bipush 6, 2) := by decide +kernel
theorem dX6_init_15 : decode cX6_init 15 = .ok (.newarray .int, 2) := by decide +kernel
theorem dX6_init_17 : decode cX6_init 17 = .ok (.putfield 15, 3) := by decide +kernel
theorem dX6_init_20 : decode cX6_init 20 = .ok (.return_, 1) := by decide +kernel
set_option maxRecDepth 20000 in
theorem ggX7_init_X2_init : GoodIn wsX7_init wsX2_init := goodIn_r _ [33, 34, 2, 3, 35, 36, 37, 38, 39, 40, 90, 91, 92, 93, 94, 95, 96, 97] (by decide +kernel) (by decide +kernel)
set_option maxRecDepth 20000 in
theorem gX7_init_X2_init_n9 : GoodIn wsX7_init (wsX2_init) := ggX7_init_X2_init
set_option maxRecDepth 20000 in
theorem ggX7_init_X3_init : GoodIn wsX7_init wsX3_init := goodIn_r _ [42, 43, 2, 3, 44, 45, 46, 47, 48, 49, 50, 106, 107, 108, 109, 110, 111] (by decide +kernel) (by decide +kernel)
set_option maxRecDepth 20000 in
theorem gX7_init_X3_init_n18 : GoodIn wsX7_init (wsX3_init) := ggX7_init_X3_init
set_option maxRecDepth 20000 in
theorem ggX7_init_X1_init : GoodIn wsX7_init wsX1_init := goodIn_r _ [52, 53, 2, 3, 54, 9, 10, 55, 35, 56, 57, 58, 41, 42, 43, 44, 45, 46, 47, 48, 49, 50, 106, 107, 108, 109, 110, 111, 112, 113, 114, 115, 116, 117, 118] (by decide +kernel) (by decide +kernel)
set_option maxRecDepth 20000 in
theorem gX7_init_X1_init_n25 : GoodIn wsX7_init (wsX1_init) := ggX7_init_X1_init
set_option maxRecDepth 20000 in
theorem ggX7_init_X0_init : GoodIn wsX7_init wsX0_init := goodIn_r _ [60, 61, 2, 3, 62, 35, 63, 64, 119, 120, 121, 122] (by decide +kernel) (by decide +kernel)
set_option maxRecDepth 20000 in
theorem gX7_init_X0_init_n32 : GoodIn wsX7_init (wsX0_init) := ggX7_init_X0_init
set_option maxRecDepth 20000 in
theorem ggX7_init_X4_init : GoodIn wsX7_init wsX4_init := goodIn_r _ [66, 67, 2, 3, 35, 68, 69, 123, 124] (by decide +kernel) (by decide +kernel)
set_option maxRecDepth 20000 in
theorem gX7_init_X4_init_n39 : GoodIn wsX7_init (wsX4_init) := ggX7_init_X4_init
set_option maxRecDepth 20000 in
theorem ggX7_init_X6_init : GoodIn wsX7_init wsX6_init := goodIn_r _ [71, 72, 2, 3, 35, 73, 74, 125, 126, 127] (by decide +kernel) (by decide +kernel)
set_option maxRecDepth 20000 in
theorem gX7_init_X6_init_n46 : GoodIn wsX7_init (wsX6_init) := ggX7_init_X6_init
set_option maxRecDepth 20000 in
theorem ggX7_init_X5_init : GoodIn wsX7_init wsX5_init := goodIn_r _ [76, 77, 2, 3, 78, 35, 79, 80, 81, 82, 128, 129, 130, 131, 132, 133, 134, 135, 136, 137, 138, 139] (by decide +kernel) (by decide +kernel)
set_option maxRecDepth 20000 in
theorem gX7_init_X5_init_n53 : GoodIn wsX7_init (wsX5_init) := ggX7_init_X5_init
set_option maxRecDepth 20000 in
theorem ggX7_init_X2_begin : GoodIn wsX7_init wsX2_begin := goodIn_r _ [86, 87, 88, 89, 36, 37, 38, 39, 40, 90, 91, 92, 93, 94, 95, 96, 97] (by decide +kernel) (by decide +kernel)
set_option maxRecDepth 20000 in
theorem gX7_init_X2_begin : GoodIn wsX7_init (wsV RX7 58 RX2 yX2_begin wsX2_begin) := goodIn_app (goodIn_of _ (by decide +kernel)) ggX7_init_X2_begin
theorem dX7_init_0 : decode cX7_init 0 = .ok (.aload_n 0, 1) := by decide +kernel
theorem dX7_init_1 : decode cX7_init 1 = .ok (.invokespecial 1, 3) := by decide +kernel
theorem dX7_init_4 : decode cX7_init 4 = .ok (.aload_n 0, 1) := by decide +kernel
theorem dX7_init_5 : decode cX7_init 5 = .ok (.new 7, 3) := by decide +kernel
theorem dX7_init_8 : decode cX7_init 8 = .ok (.dup, 1) := by decide +kernel
theorem dX7_init_9 : decode cX7_init 9 = .ok (.invokespecial 9, 3) := by decide +kernel
theorem dX7_init_12 : decode cX7_init 12 = .ok (.putfield 10, 3) := by decide +kernel
theorem dX7_init_15 : decode cX7_init 15 = .ok (.aload_n 0, 1) := by decide +kernel
theorem dX7_init_16 : decode cX7_init 16 = .ok (.new 16, 3) := by decide +kernel
theorem dX7_init_19 : decode cX7_init 19 = .ok (.dup, 1) := by decide +kernel
theorem dX7_init_20 : decode cX7_init 20 = .ok (.invokespecial 18, 3) := by decide +kernel
theorem dX7_init_23 : decode cX7_init 23 = .ok (.putfield 19, 3) := by decide +kernel
theorem dX7_init_26 : decode cX7_init 26 = .ok (.aload_n 0, 1) := by decide +kernel
theorem dX7_init_27 : decode cX7_init 27 = .ok (.new 23, 3) := by decide +kernel
theorem dX7_init_30 : decode cX7_init 30 = .ok (.dup, 1) := by decide +kernel
theorem dX7_init_31 : decode cX7_init 31 = .ok (.invokespecial 25, 3) := by decide +kernel
theorem dX7_init_34 : decode cX7_init 34 = .ok (.putfield 26, 3) := by decide +kernel
theorem dX7_init_37 : decode cX7_init 37 = .ok (.aload_n 0, 1) := by decide +kernel
theorem dX7_init_38 : decode cX7_init 38 = .ok (.new 30, 3) := by decide +kernel
theorem dX7_init_41 : decode cX7_init 41 = .ok (.dup, 1) := by decide +kernel
theorem dX7_init_42 : decode cX7_init 42 = .ok (.invokespecial 32, 3) := by decide +kernel
theorem dX7_init_45 : decode cX7_init 45 = .ok (.putfield 33, 3) := by decide +kernel
theorem dX7_init_48 : decode cX7_init 48 = .ok (.aload_n 0, 1) := by decide +kernel
theorem dX7_init_49 : decode cX7_init 49 = .ok (.new 37, 3) := by decide +kernel
theorem dX7_init_52 : decode cX7_init 52 = .ok (.dup, 1) := by decide +kernel
theorem dX7_init_53 : decode cX7_init 53 = .ok (.invokespecial 39, 3) := by decide +kernel
theorem dX7_init_56 : decode cX7_init 56 = .ok (.putfield 40, 3) := by decide +kernel
theorem dX7_init_59 : decode cX7_init 59 = .ok (.aload_n 0, 1) := by decide +kernel
theorem dX7_init_60 : decode cX7_init 60 = .ok (.new 44, 3) := by decide +kernel
theorem dX7_init_63 : decode cX7_init 63 = .ok (.dup, 1) := by decide +kernel
theorem dX7_init_64 : decode cX7_init 64 = .ok (.invokespecial 46, 3) := by decide +kernel
theorem dX7_init_67 : decode cX7_init 67 = .ok (.putfield 47, 3) := by decide +kernel
theorem dX7_init_70 : decode cX7_init 70 = .ok (.aload_n 0, 1) := by decide +kernel
theorem dX7_init_71 : decode cX7_init 71 = .ok (.new 51, 3) := by decide +kernel
theorem dX7_init_74 : decode cX7_init 74 = .ok (.dup, 1) := by decide +kernel
theorem dX7_init_75 : decode cX7_init 75 = .ok (.invokespecial 53, 3) := by decide +kernel
theorem dX7_init_78 : decode cX7_init 78 = .ok (.putfield 54, 3) := by decide +kernel
theorem dX7_init_81 : decode cX7_init 81 = .ok (.aload_n 0, 1) := by decide +kernel
theorem dX7_init_82 : decode cX7_init 82 = .ok (.getfield 10, 3) := by decide +kernel
theorem dX7_init_85 : decode cX7_init 85 = .ok (.iconst 4, 1) := by decide +kernel
theorem dX7_init_86 : decode cX7_init 86 = .ok (.iconst 2, 1) := by decide +kernel
theorem dX7_init_87 : decode cX7_init 87 = .ok (.invokevirtual 58, 3) := by decide +kernel
theorem dX7_init_90 : decode cX7_init 90 = .ok (.return_, 1) := by decide +kernel
set_option maxRecDepth 20000 in
theorem ggX7_joint_X7_within : GoodIn wsX7_joint wsX7_within := goodIn_r _ [11] (by decide +kernel) (by decide +kernel)
set_option maxRecDepth 20000 in
theorem gX7_joint_X7_within : GoodIn wsX7_joint (va_wsS RX7 62 yX7_within wsX7_within) := goodIn_app (goodIn_of _ (by decide +kernel)) ggX7_joint_X7_within
set_option maxRecDepth 20000 in
theorem ggX7_joint_X2_begin : GoodIn wsX7_joint wsX2_begin := goodIn_r _ [16, 17, 18, 19, 20, 21, 22, 23, 24, 50, 51, 52, 53, 54, 55, 56, 57] (by decide +kernel) (by decide +kernel)
set_option maxRecDepth 20000 in
theorem gX7_joint_X2_begin : GoodIn wsX7_joint (wsV RX7 58 RX2 yX2_begin wsX2_begin) := goodIn_app (goodIn_of _ (by decide +kernel)) ggX7_joint_X2_begin
set_option maxRecDepth 20000 in
theorem ggX7_joint_X4_begin : GoodIn wsX7_joint wsX4_begin := goodIn_r _ [29, 30, 31, 32, 28, 33, 34, 58, 59] (by decide +kernel) (by decide +kernel)
set_option maxRecDepth 20000 in
theorem gX7_joint_X4_begin : GoodIn wsX7_joint (wsV RX7 71 RX4 yX4_begin wsX4_begin) := goodIn_app (goodIn_of _ (by decide +kernel)) ggX7_joint_X4_begin
theorem dX7_joint_0 : decode cX7_joint 0 = .ok (.iload_n 1, 1) := by decide +kernel
theorem dX7_joint_1 : decode cX7_joint 1 = .ok (.iconst 3, 1) := by decide +kernel
theorem dX7_joint_2 : decode cX7_joint 2 = .ok (.bipush 6, 2) := by decide +kernel
theorem dX7_joint_4 : decode cX7_joint 4 = .ok (.invokestatic 62, 3) := by decide +kernel
theorem dX7_joint_7 : decode cX7_joint 7 = .ok (.ifCond .eq 13, 3) := by decide +kernel
theorem dX7_joint_10 : decode cX7_joint 10 = .ok (.iload_n 2, 1) := by decide +kernel
theorem dX7_joint_11 : decode cX7_joint 11 = .ok (.iconst 1, 1) := by decide +kernel
theorem dX7_joint_12 : decode cX7_joint 12 = .ok (.bipush 9, 2) := by decide +kernel
theorem dX7_joint_14 : decode cX7_joint 14 = .ok (.invokestatic 62, 3) := by decide +kernel
theorem dX7_joint_17 : decode cX7_joint 17 = .ok (.ifCond .ne 6, 3) := by decide +kernel
theorem dX7_joint_20 : decode cX7_joint 20 = .ok (.ldc 66, 2) := by decide +kernel
theorem dX7_joint_22 : decode cX7_joint 22 = .ok (.ireturn, 1) := by decide +kernel
theorem dX7_joint_23 : decode cX7_joint 23 = .ok (.aload_n 0, 1) := by decide +kernel
theorem dX7_joint_24 : decode cX7_joint 24 = .ok (.getfield 10, 3) := by decide +kernel
theorem dX7_joint_27 : decode cX7_joint 27 = .ok (.iload_n 1, 1) := by decide +kernel
theorem dX7_joint_28 : decode cX7_joint 28 = .ok (.iload_n 2, 1) := by decide +kernel
theorem dX7_joint_29 : decode cX7_joint 29 = .ok (.invokevirtual 58, 3) := by decide +kernel
theorem dX7_joint_32 : decode cX7_joint 32 = .ok (.aload_n 0, 1) := by decide +kernel
theorem dX7_joint_33 : decode cX7_joint 33 = .ok (.getfield 33, 3) := by decide +kernel
theorem dX7_joint_36 : decode cX7_joint 36 = .ok (.iconst 0, 1) := by decide +kernel
theorem dX7_joint_37 : decode cX7_joint 37 = .ok (.putfield 67, 3) := by decide +kernel
theorem dX7_joint_40 : decode cX7_joint 40 = .ok (.aload_n 0, 1) := by decide +kernel
theorem dX7_joint_41 : decode cX7_joint 41 = .ok (.getfield 40, 3) := by decide +kernel
theorem dX7_joint_44 : decode cX7_joint 44 = .ok (.invokevirtual 71, 3) := by decide +kernel
theorem dX7_joint_47 : decode cX7_joint 47 = .ok (.aload_n 0, 1) := by decide +kernel
theorem dX7_joint_48 : decode cX7_joint 48 = .ok (.getfield 47, 3) := by decide +kernel
theorem dX7_joint_51 : decode cX7_joint 51 = .ok (.iconst 0, 1) := by decide +kernel
theorem dX7_joint_52 : decode cX7_joint 52 = .ok (.putfield 73, 3) := by decide +kernel
theorem dX7_joint_55 : decode cX7_joint 55 = .ok (.iload_n 1, 1) := by decide +kernel
theorem dX7_joint_56 : decode cX7_joint 56 = .ok (.ireturn, 1) := by decide +kernel
set_option maxRecDepth 20000 in
theorem ggX7_set_X2_has : GoodIn wsX7_set wsX2_has := goodIn_r _ [8, 9, 36, 37, 38, 39, 40, 41, 42, 43] (by decide +kernel) (by decide +kernel)
set_option maxRecDepth 20000 in
theorem gX7_set_X2_has : GoodIn wsX7_set (wsV RX7 76 RX2 yX2_has wsX2_has) := goodIn_app (goodIn_of _ (by decide +kernel)) ggX7_set_X2_has
set_option maxRecDepth 20000 in
theorem ggX7_set_X7_within : GoodIn wsX7_set wsX7_within := goodIn_r _ [13] (by decide +kernel) (by decide +kernel)
set_option maxRecDepth 20000 in
theorem gX7_set_X7_within : GoodIn wsX7_set (va_wsS RX7 62 yX7_within wsX7_within) := goodIn_app (goodIn_of _ (by decide +kernel)) ggX7_set_X7_within
set_option maxRecDepth 20000 in
theorem ggX7_set_X7_leastOf : GoodIn wsX7_set wsX7_leastOf := goodIn_r _ [16] (by decide +kernel) (by decide +kernel)
set_option maxRecDepth 20000 in
theorem gX7_set_X7_leastOf : GoodIn wsX7_set (va_wsS RX7 81 yX7_leastOf wsX7_leastOf) := goodIn_app (goodIn_of _ (by decide +kernel)) ggX7_set_X7_leastOf
set_option maxRecDepth 20000 in
theorem ggX7_set_X7_mostOf : GoodIn wsX7_set wsX7_mostOf := goodIn_r _ [19] (by decide +kernel) (by decide +kernel)
set_option maxRecDepth 20000 in
theorem gX7_set_X7_mostOf : GoodIn wsX7_set (va_wsS RX7 85 yX7_mostOf wsX7_mostOf) := goodIn_app (goodIn_of _ (by decide +kernel)) ggX7_set_X7_mostOf
set_option maxRecDepth 20000 in
theorem ggX7_set_X2_valuesOf : GoodIn wsX7_set wsX2_valuesOf := goodIn_r _ [23, 24, 25, 26, 27, 36, 37, 38, 39, 40, 41, 42, 43] (by decide +kernel) (by decide +kernel)
set_option maxRecDepth 20000 in
theorem gX7_set_X2_valuesOf : GoodIn wsX7_set (wsV RX7 88 RX2 yX2_valuesOf wsX2_valuesOf) := goodIn_app (goodIn_of _ (by decide +kernel)) ggX7_set_X2_valuesOf
theorem dX7_set_0 : decode cX7_set 0 = .ok (.aload_n 0, 1) := by decide +kernel
theorem dX7_set_1 : decode cX7_set 1 = .ok (.getfield 10, 3) := by decide +kernel
theorem dX7_set_4 : decode cX7_set 4 = .ok (.iload_n 1, 1) := by decide +kernel
theorem dX7_set_5 : decode cX7_set 5 = .ok (.invokevirtual 76, 3) := by decide +kernel
theorem dX7_set_8 : decode cX7_set 8 = .ok (.ifCond .ne 6, 3) := by decide +kernel
theorem dX7_set_11 : decode cX7_set 11 = .ok (.ldc 80, 2) := by decide +kernel
theorem dX7_set_13 : decode cX7_set 13 = .ok (.ireturn, 1) := by decide +kernel
theorem dX7_set_14 : decode cX7_set 14 = .ok (.iload_n 2, 1) := by decide +kernel
theorem dX7_set_15 : decode cX7_set 15 = .ok (.iconst 0, 1) := by decide +kernel
theorem dX7_set_16 : decode cX7_set 16 = .ok (.iconst 3, 1) := by decide +kernel
theorem dX7_set_17 : decode cX7_set 17 = .ok (.invokestatic 62, 3) := by decide +kernel
theorem dX7_set_20 : decode cX7_set 20 = .ok (.ifCond .eq 18, 3) := by decide +kernel
theorem dX7_set_23 : decode cX7_set 23 = .ok (.iload_n 3, 1) := by decide +kernel
theorem dX7_set_24 : decode cX7_set 24 = .ok (.iload_n 2, 1) := by decide +kernel
theorem dX7_set_25 : decode cX7_set 25 = .ok (.invokestatic 81, 3) := by decide +kernel
theorem dX7_set_28 : decode cX7_set 28 = .ok (.iload_n 2, 1) := by decide +kernel
theorem dX7_set_29 : decode cX7_set 29 = .ok (.invokestatic 85, 3) := by decide +kernel
theorem dX7_set_32 : decode cX7_set 32 = .ok (.invokestatic 62, 3) := by decide +kernel
theorem dX7_set_35 : decode cX7_set 35 = .ok (.ifCond .ne 6, 3) := by decide +kernel
theorem dX7_set_38 : decode cX7_set 38 = .ok (.ldc 66, 2) := by decide +kernel
theorem dX7_set_40 : decode cX7_set 40 = .ok (.ireturn, 1) := by decide +kernel
theorem dX7_set_41 : decode cX7_set 41 = .ok (.aload_n 0, 1) := by decide +kernel
theorem dX7_set_42 : decode cX7_set 42 = .ok (.getfield 10, 3) := by decide +kernel
theorem dX7_set_45 : decode cX7_set 45 = .ok (.iload_n 2, 1) := by decide +kernel
theorem dX7_set_46 : decode cX7_set 46 = .ok (.invokevirtual 88, 3) := by decide +kernel
theorem dX7_set_49 : decode cX7_set 49 = .ok (.astore 4, 2) := by decide +kernel
theorem dX7_set_51 : decode cX7_set 51 = .ok (.aload 4, 2) := by decide +kernel
theorem dX7_set_53 : decode cX7_set 53 = .ok (.iload_n 1, 1) := by decide +kernel
theorem dX7_set_54 : decode cX7_set 54 = .ok (.iaload, 1) := by decide +kernel
theorem dX7_set_55 : decode cX7_set 55 = .ok (.istore 5, 2) := by decide +kernel
theorem dX7_set_57 : decode cX7_set 57 = .ok (.aload 4, 2) := by decide +kernel
theorem dX7_set_59 : decode cX7_set 59 = .ok (.iload_n 1, 1) := by decide +kernel
theorem dX7_set_60 : decode cX7_set 60 = .ok (.iload_n 3, 1) := by decide +kernel
theorem dX7_set_61 : decode cX7_set 61 = .ok (.iastore, 1) := by decide +kernel
theorem dX7_set_62 : decode cX7_set 62 = .ok (.iload 5, 2) := by decide +kernel
theorem dX7_set_64 : decode cX7_set 64 = .ok (.ireturn, 1) := by decide +kernel
set_option maxRecDepth 20000 in
theorem ggX7_broken_X2_has : GoodIn wsX7_broken wsX2_has := goodIn_r _ [8, 9, 42, 43, 44, 45, 46, 47, 48, 49] (by decide +kernel) (by decide +kernel)
set_option maxRecDepth 20000 in
theorem gX7_broken_X2_has : GoodIn wsX7_broken (wsV RX7 76 RX2 yX2_has wsX2_has) := goodIn_app (goodIn_of _ (by decide +kernel)) ggX7_broken_X2_has
set_option maxRecDepth 20000 in
theorem ggX7_broken_X2_isBroken : GoodIn wsX7_broken wsX2_isBroken := goodIn_r _ [13, 14, 42, 43, 44, 45, 46, 47, 48, 49] (by decide +kernel) (by decide +kernel)
set_option maxRecDepth 20000 in
theorem gX7_broken_X2_isBroken : GoodIn wsX7_broken (wsV RX7 92 RX2 yX2_isBroken wsX2_isBroken) := goodIn_app (goodIn_of _ (by decide +kernel)) ggX7_broken_X2_isBroken
set_option maxRecDepth 20000 in
theorem ggX7_broken_X2_wholeCount : GoodIn wsX7_broken wsX2_wholeCount := goodIn_r _ [18, 9, 14, 19, 20, 21, 22, 23, 24, 25, 42, 43, 44, 45, 46, 47, 48, 49] (by decide +kernel) (by decide +kernel)
set_option maxRecDepth 20000 in
theorem gX7_broken_X2_wholeCount : GoodIn wsX7_broken (wsV RX7 95 RX2 yX2_wholeCount wsX2_wholeCount) := goodIn_app (goodIn_of _ (by decide +kernel)) ggX7_broken_X2_wholeCount
set_option maxRecDepth 20000 in
theorem ggX7_broken_X2_markBroken : GoodIn wsX7_broken wsX2_markBroken := goodIn_r _ [29, 14, 42, 43, 44, 45, 46, 47, 48, 49] (by decide +kernel) (by decide +kernel)
set_option maxRecDepth 20000 in
theorem gX7_broken_X2_markBroken : GoodIn wsX7_broken (wsV RX7 100 RX2 yX2_markBroken wsX2_markBroken) := goodIn_app (goodIn_of _ (by decide +kernel)) ggX7_broken_X2_markBroken
set_option maxRecDepth 20000 in
theorem ggX7_broken_X7_asNumber : GoodIn wsX7_broken wsX7_asNumber := goodIn_r _ [33] (by decide +kernel) (by decide +kernel)
set_option maxRecDepth 20000 in
theorem gX7_broken_X7_asNumber : GoodIn wsX7_broken (va_wsS RX7 104 yX7_asNumber wsX7_asNumber) := goodIn_app (goodIn_of _ (by decide +kernel)) ggX7_broken_X7_asNumber
theorem dX7_broken_0 : decode cX7_broken 0 = .ok (.aload_n 0, 1) := by decide +kernel
theorem dX7_broken_1 : decode cX7_broken 1 = .ok (.getfield 10, 3) := by decide +kernel
theorem dX7_broken_4 : decode cX7_broken 4 = .ok (.iload_n 1, 1) := by decide +kernel
theorem dX7_broken_5 : decode cX7_broken 5 = .ok (.invokevirtual 76, 3) := by decide +kernel
theorem dX7_broken_8 : decode cX7_broken 8 = .ok (.ifCond .ne 6, 3) := by decide +kernel
theorem dX7_broken_11 : decode cX7_broken 11 = .ok (.ldc 80, 2) := by decide +kernel
theorem dX7_broken_13 : decode cX7_broken 13 = .ok (.ireturn, 1) := by decide +kernel
theorem dX7_broken_14 : decode cX7_broken 14 = .ok (.aload_n 0, 1) := by decide +kernel
theorem dX7_broken_15 : decode cX7_broken 15 = .ok (.getfield 10, 3) := by decide +kernel
theorem dX7_broken_18 : decode cX7_broken 18 = .ok (.iload_n 1, 1) := by decide +kernel
theorem dX7_broken_19 : decode cX7_broken 19 = .ok (.invokevirtual 92, 3) := by decide +kernel
theorem dX7_broken_22 : decode cX7_broken 22 = .ok (.istore_n 3, 1) := by decide +kernel
theorem dX7_broken_23 : decode cX7_broken 23 = .ok (.iload_n 2, 1) := by decide +kernel
theorem dX7_broken_24 : decode cX7_broken 24 = .ok (.ifCond .eq 21, 3) := by decide +kernel
theorem dX7_broken_27 : decode cX7_broken 27 = .ok (.iload_n 3, 1) := by decide +kernel
theorem dX7_broken_28 : decode cX7_broken 28 = .ok (.ifCond .ne 17, 3) := by decide +kernel
theorem dX7_broken_31 : decode cX7_broken 31 = .ok (.aload_n 0, 1) := by decide +kernel
theorem dX7_broken_32 : decode cX7_broken 32 = .ok (.getfield 10, 3) := by decide +kernel
theorem dX7_broken_35 : decode cX7_broken 35 = .ok (.invokevirtual 95, 3) := by decide +kernel
theorem dX7_broken_38 : decode cX7_broken 38 = .ok (.iconst 1, 1) := by decide +kernel
theorem dX7_broken_39 : decode cX7_broken 39 = .ok (.if_icmp .ne 6, 3) := by decide +kernel
theorem dX7_broken_42 : decode cX7_broken 42 = .ok (.ldc 99, 2) := by decide +kernel
theorem dX7_broken_44 : decode cX7_broken 44 = .ok (.ireturn, 1) := by decide +kernel
theorem dX7_broken_45 : decode cX7_broken 45 = .ok (.aload_n 0, 1) := by decide +kernel
theorem dX7_broken_46 : decode cX7_broken 46 = .ok (.getfield 10, 3) := by decide +kernel
theorem dX7_broken_49 : decode cX7_broken 49 = .ok (.iload_n 1, 1) := by decide +kernel
theorem dX7_broken_50 : decode cX7_broken 50 = .ok (.iload_n 2, 1) := by decide +kernel
theorem dX7_broken_51 : decode cX7_broken 51 = .ok (.invokevirtual 100, 3) := by decide +kernel
theorem dX7_broken_54 : decode cX7_broken 54 = .ok (.iload_n 3, 1) := by decide +kernel
theorem dX7_broken_55 : decode cX7_broken 55 = .ok (.invokestatic 104, 3) := by decide +kernel
theorem dX7_broken_58 : decode cX7_broken 58 = .ok (.ireturn, 1) := by decide +kernel
set_option maxRecDepth 20000 in
theorem ggX7_told_X2_has : GoodIn wsX7_told wsX2_has := goodIn_r _ [10, 11, 101, 102, 103, 104, 105, 106, 107, 108] (by decide +kernel) (by decide +kernel)
set_option maxRecDepth 20000 in
theorem gX7_told_X2_has : GoodIn wsX7_told (wsV RX7 76 RX2 yX2_has wsX2_has) := goodIn_app (goodIn_of _ (by decide +kernel)) ggX7_told_X2_has
set_option maxRecDepth 20000 in
theorem ggX7_told_X2_valuesOf : GoodIn wsX7_told wsX2_valuesOf := goodIn_r _ [15, 16, 17, 18, 19, 101, 102, 103, 104, 105, 106, 107, 108] (by decide +kernel) (by decide +kernel)
set_option maxRecDepth 20000 in
theorem gX7_told_X2_valuesOf : GoodIn wsX7_told (wsV RX7 88 RX2 yX2_valuesOf wsX2_valuesOf) := goodIn_app (goodIn_of _ (by decide +kernel)) ggX7_told_X2_valuesOf
set_option maxRecDepth 20000 in
theorem ggX7_told_X2_isBroken : GoodIn wsX7_told wsX2_isBroken := goodIn_r _ [23, 24, 101, 102, 103, 104, 105, 106, 107, 108] (by decide +kernel) (by decide +kernel)
set_option maxRecDepth 20000 in
theorem gX7_told_X2_isBroken : GoodIn wsX7_told (wsV RX7 92 RX2 yX2_isBroken wsX2_isBroken) := goodIn_app (goodIn_of _ (by decide +kernel)) ggX7_told_X2_isBroken
set_option maxRecDepth 20000 in
theorem ggX7_told_X7_asNumber : GoodIn wsX7_told wsX7_asNumber := goodIn_r _ [28] (by decide +kernel) (by decide +kernel)
set_option maxRecDepth 20000 in
theorem gX7_told_X7_asNumber : GoodIn wsX7_told (va_wsS RX7 104 yX7_asNumber wsX7_asNumber) := goodIn_app (goodIn_of _ (by decide +kernel)) ggX7_told_X7_asNumber
set_option maxRecDepth 20000 in
theorem ggX7_told_X3_settle : GoodIn wsX7_told wsX3_settle := goodIn_r _ [33, 34, 35, 36, 32, 37, 38, 39, 40, 41, 42, 43, 44, 9, 45, 11, 46, 47, 48, 49, 50, 51, 52, 53, 54, 55, 56, 57, 58, 59, 60, 61, 62, 63, 64, 65, 66, 67, 68, 69, 70, 71, 72, 73, 74, 101, 102, 103, 104, 105, 106, 107, 108, 109, 110, 111, 112, 113, 114] (by decide +kernel) (by decide +kernel)
set_option maxRecDepth 20000 in
theorem gX7_told_X3_settle : GoodIn wsX7_told (wsV RX7 112 RX3 yX3_settle wsX3_settle) := goodIn_app (goodIn_of _ (by decide +kernel)) ggX7_told_X3_settle
set_option maxRecDepth 20000 in
theorem ggX7_told_X3_pullUpper : GoodIn wsX7_told wsX3_pullUpper := goodIn_r _ [78, 51, 65, 52, 66, 79, 80, 81, 82, 83, 21, 22, 9, 23, 24, 101, 102, 103, 104, 105, 106, 107, 108, 109, 110, 111, 112, 113, 114] (by decide +kernel) (by decide +kernel)
set_option maxRecDepth 20000 in
theorem gX7_told_X3_pullUpper : GoodIn wsX7_told (wsV RX7 116 RX3 yX3_pullUpper wsX3_pullUpper) := goodIn_app (goodIn_of _ (by decide +kernel)) ggX7_told_X3_pullUpper
set_option maxRecDepth 20000 in
theorem ggX7_told_X3_pressUpper : GoodIn wsX7_told wsX3_pressUpper := goodIn_r _ [87, 53, 66, 79, 80, 81, 82, 101, 102, 103, 104, 105, 106, 107, 108, 109, 110, 111, 112, 113, 114] (by decide +kernel) (by decide +kernel)
set_option maxRecDepth 20000 in
theorem gX7_told_X3_pressUpper : GoodIn wsX7_told (wsV RX7 120 RX3 yX3_pressUpper wsX3_pressUpper) := goodIn_app (goodIn_of _ (by decide +kernel)) ggX7_told_X3_pressUpper
set_option maxRecDepth 20000 in
theorem ggX7_told_X2_placeInRow : GoodIn wsX7_told wsX2_placeInRow := goodIn_r _ [91, 11, 92, 101, 102, 103, 104, 105, 106, 107, 108] (by decide +kernel) (by decide +kernel)
set_option maxRecDepth 20000 in
theorem gX7_told_X2_placeInRow : GoodIn wsX7_told (wsV RX7 123 RX2 yX2_placeInRow wsX2_placeInRow) := goodIn_app (goodIn_of _ (by decide +kernel)) ggX7_told_X2_placeInRow
theorem dX7_told_0 : decode cX7_told 0 = .ok (.aload_n 0, 1) := by decide +kernel
theorem dX7_told_1 : decode cX7_told 1 = .ok (.getfield 10, 3) := by decide +kernel
theorem dX7_told_4 : decode cX7_told 4 = .ok (.iload_n 1, 1) := by decide +kernel
theorem dX7_told_5 : decode cX7_told 5 = .ok (.invokevirtual 76, 3) := by decide +kernel
theorem dX7_told_8 : decode cX7_told 8 = .ok (.ifCond .ne 6, 3) := by decide +kernel
theorem dX7_told_11 : decode cX7_told 11 = .ok (.ldc 80, 2) := by decide +kernel
theorem dX7_told_13 : decode cX7_told 13 = .ok (.ireturn, 1) := by decide +kernel
theorem dX7_told_14 : decode cX7_told 14 = .ok (.iload_n 2, 1) := by decide +kernel
theorem dX7_told_15 : decode cX7_told 15 = .ok (.tableswitch 165 0 7 #[45, 45, 45, 45, 56, 68, 112, 156], 45) := by decide +kernel
theorem dX7_told_60 : decode cX7_told 60 = .ok (.aload_n 0, 1) := by decide +kernel
theorem dX7_told_61 : decode cX7_told 61 = .ok (.getfield 10, 3) := by decide +kernel
theorem dX7_told_64 : decode cX7_told 64 = .ok (.iload_n 2, 1) := by decide +kernel
theorem dX7_told_65 : decode cX7_told 65 = .ok (.invokevirtual 88, 3) := by decide +kernel
theorem dX7_told_68 : decode cX7_told 68 = .ok (.iload_n 1, 1) := by decide +kernel
theorem dX7_told_69 : decode cX7_told 69 = .ok (.iaload, 1) := by decide +kernel
theorem dX7_told_70 : decode cX7_told 70 = .ok (.ireturn, 1) := by decide +kernel
theorem dX7_told_71 : decode cX7_told 71 = .ok (.aload_n 0, 1) := by decide +kernel
theorem dX7_told_72 : decode cX7_told 72 = .ok (.getfield 10, 3) := by decide +kernel
theorem dX7_told_75 : decode cX7_told 75 = .ok (.iload_n 1, 1) := by decide +kernel
theorem dX7_told_76 : decode cX7_told 76 = .ok (.invokevirtual 92, 3) := by decide +kernel
theorem dX7_told_79 : decode cX7_told 79 = .ok (.invokestatic 104, 3) := by decide +kernel
theorem dX7_told_82 : decode cX7_told 82 = .ok (.ireturn, 1) := by decide +kernel
theorem dX7_told_83 : decode cX7_told 83 = .ok (.aload_n 0, 1) := by decide +kernel
theorem dX7_told_84 : decode cX7_told 84 = .ok (.getfield 19, 3) := by decide +kernel
theorem dX7_told_87 : decode cX7_told 87 = .ok (.aload_n 0, 1) := by decide +kernel
theorem dX7_told_88 : decode cX7_told 88 = .ok (.getfield 10, 3) := by decide +kernel
theorem dX7_told_91 : decode cX7_told 91 = .ok (.aload_n 0, 1) := by decide +kernel
theorem dX7_told_92 : decode cX7_told 92 = .ok (.getfield 10, 3) := by decide +kernel
theorem dX7_told_95 : decode cX7_told 95 = .ok (.getfield 108, 3) := by decide +kernel
theorem dX7_told_98 : decode cX7_told 98 = .ok (.invokevirtual 112, 3) := by decide +kernel
theorem dX7_told_101 : decode cX7_told 101 = .ok (.aload_n 0, 1) := by decide +kernel
theorem dX7_told_102 : decode cX7_told 102 = .ok (.getfield 19, 3) := by decide +kernel
theorem dX7_told_105 : decode cX7_told 105 = .ok (.aload_n 0, 1) := by decide +kernel
theorem dX7_told_106 : decode cX7_told 106 = .ok (.getfield 10, 3) := by decide +kernel
theorem dX7_told_109 : decode cX7_told 109 = .ok (.iload_n 1, 1) := by decide +kernel
theorem dX7_told_110 : decode cX7_told 110 = .ok (.invokevirtual 116, 3) := by decide +kernel
theorem dX7_told_113 : decode cX7_told 113 = .ok (.lconst 0, 1) := by decide +kernel
theorem dX7_told_114 : decode cX7_told 114 = .ok (.lcmp, 1) := by decide +kernel
theorem dX7_told_115 : decode cX7_told 115 = .ok (.ifCond .ne 7, 3) := by decide +kernel
theorem dX7_told_118 : decode cX7_told 118 = .ok (.iconst 1, 1) := by decide +kernel
theorem dX7_told_119 : decode cX7_told 119 = .ok (.goto 4, 3) := by decide +kernel
theorem dX7_told_122 : decode cX7_told 122 = .ok (.iconst 0, 1) := by decide +kernel
theorem dX7_told_123 : decode cX7_told 123 = .ok (.invokestatic 104, 3) := by decide +kernel
theorem dX7_told_126 : decode cX7_told 126 = .ok (.ireturn, 1) := by decide +kernel
theorem dX7_told_127 : decode cX7_told 127 = .ok (.aload_n 0, 1) := by decide +kernel
theorem dX7_told_128 : decode cX7_told 128 = .ok (.getfield 19, 3) := by decide +kernel
theorem dX7_told_131 : decode cX7_told 131 = .ok (.aload_n 0, 1) := by decide +kernel
theorem dX7_told_132 : decode cX7_told 132 = .ok (.getfield 10, 3) := by decide +kernel
theorem dX7_told_135 : decode cX7_told 135 = .ok (.aload_n 0, 1) := by decide +kernel
theorem dX7_told_136 : decode cX7_told 136 = .ok (.getfield 10, 3) := by decide +kernel
theorem dX7_told_139 : decode cX7_told 139 = .ok (.getfield 108, 3) := by decide +kernel
theorem dX7_told_142 : decode cX7_told 142 = .ok (.invokevirtual 112, 3) := by decide +kernel
theorem dX7_told_145 : decode cX7_told 145 = .ok (.aload_n 0, 1) := by decide +kernel
theorem dX7_told_146 : decode cX7_told 146 = .ok (.getfield 19, 3) := by decide +kernel
theorem dX7_told_149 : decode cX7_told 149 = .ok (.aload_n 0, 1) := by decide +kernel
theorem dX7_told_150 : decode cX7_told 150 = .ok (.getfield 10, 3) := by decide +kernel
theorem dX7_told_153 : decode cX7_told 153 = .ok (.iload_n 1, 1) := by decide +kernel
theorem dX7_told_154 : decode cX7_told 154 = .ok (.invokevirtual 120, 3) := by decide +kernel
theorem dX7_told_157 : decode cX7_told 157 = .ok (.lconst 0, 1) := by decide +kernel
theorem dX7_told_158 : decode cX7_told 158 = .ok (.lcmp, 1) := by decide +kernel
theorem dX7_told_159 : decode cX7_told 159 = .ok (.ifCond .ne 7, 3) := by decide +kernel
theorem dX7_told_162 : decode cX7_told 162 = .ok (.iconst 1, 1) := by decide +kernel
theorem dX7_told_163 : decode cX7_told 163 = .ok (.goto 4, 3) := by decide +kernel
theorem dX7_told_166 : decode cX7_told 166 = .ok (.iconst 0, 1) := by decide +kernel
theorem dX7_told_167 : decode cX7_told 167 = .ok (.invokestatic 104, 3) := by decide +kernel
theorem dX7_told_170 : decode cX7_told 170 = .ok (.ireturn, 1) := by decide +kernel
theorem dX7_told_171 : decode cX7_told 171 = .ok (.aload_n 0, 1) := by decide +kernel
theorem dX7_told_172 : decode cX7_told 172 = .ok (.getfield 10, 3) := by decide +kernel
theorem dX7_told_175 : decode cX7_told 175 = .ok (.iload_n 1, 1) := by decide +kernel
theorem dX7_told_176 : decode cX7_told 176 = .ok (.invokevirtual 123, 3) := by decide +kernel
theorem dX7_told_179 : decode cX7_told 179 = .ok (.ireturn, 1) := by decide +kernel
theorem dX7_told_180 : decode cX7_told 180 = .ok (.ldc 66, 2) := by decide +kernel
theorem dX7_told_182 : decode cX7_told 182 = .ok (.ireturn, 1) := by decide +kernel
set_option maxRecDepth 20000 in
theorem ggX7_count_J6_bitCount_0f7a4 : GoodIn wsX7_count wsJ6_bitCount_0f7a4 := goodIn_r _ [18, 19, 20, 21] (by decide +kernel) (by decide +kernel)
set_option maxRecDepth 20000 in
theorem gX7_count_J6_bitCount_0f7a4 : GoodIn wsX7_count (va_wsS RX7 148 yJ6_bitCount_0f7a4 wsJ6_bitCount_0f7a4) := goodIn_app (goodIn_of _ (by decide +kernel)) ggX7_count_J6_bitCount_0f7a4
set_option maxRecDepth 20000 in
theorem ggX7_count_X3_settle : GoodIn wsX7_count wsX3_settle := goodIn_r _ [26, 27, 28, 29, 25, 30, 31, 32, 33, 34, 35, 36, 37, 38, 39, 40, 41, 42, 43, 44, 45, 46, 47, 48, 49, 50, 51, 52, 53, 54, 55, 56, 57, 58, 59, 60, 61, 62, 63, 64, 65, 66, 67, 68, 69, 110, 111, 112, 113, 114, 115, 116, 117, 137, 138, 139, 140, 141, 142] (by decide +kernel) (by decide +kernel)
set_option maxRecDepth 20000 in
theorem gX7_count_X3_settle : GoodIn wsX7_count (wsV RX7 112 RX3 yX3_settle wsX3_settle) := goodIn_app (goodIn_of _ (by decide +kernel)) ggX7_count_X3_settle
set_option maxRecDepth 20000 in
theorem ggX7_count_X3_slackCount : GoodIn wsX7_count wsX3_slackCount := goodIn_r _ [73, 33, 74, 75, 76, 25, 77, 46, 60, 47, 61, 78, 79, 80, 81, 82, 83, 84, 38, 85, 86, 87, 88, 89, 110, 111, 112, 113, 114, 115, 116, 117, 137, 138, 139, 140, 141, 142] (by decide +kernel) (by decide +kernel)
set_option maxRecDepth 20000 in
theorem gX7_count_X3_slackCount : GoodIn wsX7_count (wsV RX7 153 RX3 yX3_slackCount wsX3_slackCount) := goodIn_app (goodIn_of _ (by decide +kernel)) ggX7_count_X3_slackCount
set_option maxRecDepth 20000 in
theorem ggX7_count_X3_openCount : GoodIn wsX7_count wsX3_openCount := goodIn_r _ [93, 33, 94, 95, 96, 25, 97, 48, 61, 78, 79, 80, 81, 87, 88, 89, 110, 111, 112, 113, 114, 115, 116, 117, 137, 138, 139, 140, 141, 142] (by decide +kernel) (by decide +kernel)
set_option maxRecDepth 20000 in
theorem gX7_count_X3_openCount : GoodIn wsX7_count (wsV RX7 157 RX3 yX3_openCount wsX3_openCount) := goodIn_app (goodIn_of _ (by decide +kernel)) ggX7_count_X3_openCount
set_option maxRecDepth 20000 in
theorem ggX7_count_X2_sumOf : GoodIn wsX7_count wsX2_sumOf := goodIn_r _ [101, 40, 110, 111, 112, 113, 114, 115, 116, 117] (by decide +kernel) (by decide +kernel)
set_option maxRecDepth 20000 in
theorem gX7_count_X2_sumOf : GoodIn wsX7_count (wsV RX7 163 RX2 yX2_sumOf wsX2_sumOf) := goodIn_app (goodIn_of _ (by decide +kernel)) ggX7_count_X2_sumOf
theorem dX7_count_0 : decode cX7_count 0 = .ok (.iload_n 1, 1) := by decide +kernel
theorem dX7_count_1 : decode cX7_count 1 = .ok (.tableswitch 177 0 8 #[51, 59, 70, 100, 130, 145, 153, 164, 172], 51) := by decide +kernel
theorem dX7_count_52 : decode cX7_count 52 = .ok (.aload_n 0, 1) := by decide +kernel
theorem dX7_count_53 : decode cX7_count 53 = .ok (.getfield 10, 3) := by decide +kernel
theorem dX7_count_56 : decode cX7_count 56 = .ok (.getfield 142, 3) := by decide +kernel
theorem dX7_count_59 : decode cX7_count 59 = .ok (.ireturn, 1) := by decide +kernel
theorem dX7_count_60 : decode cX7_count 60 = .ok (.aload_n 0, 1) := by decide +kernel
theorem dX7_count_61 : decode cX7_count 61 = .ok (.getfield 10, 3) := by decide +kernel
theorem dX7_count_64 : decode cX7_count 64 = .ok (.getfield 145, 3) := by decide +kernel
theorem dX7_count_67 : decode cX7_count 67 = .ok (.invokestatic 148, 3) := by decide +kernel
theorem dX7_count_70 : decode cX7_count 70 = .ok (.ireturn, 1) := by decide +kernel
theorem dX7_count_71 : decode cX7_count 71 = .ok (.aload_n 0, 1) := by decide +kernel
theorem dX7_count_72 : decode cX7_count 72 = .ok (.getfield 19, 3) := by decide +kernel
theorem dX7_count_75 : decode cX7_count 75 = .ok (.aload_n 0, 1) := by decide +kernel
theorem dX7_count_76 : decode cX7_count 76 = .ok (.getfield 10, 3) := by decide +kernel
theorem dX7_count_79 : decode cX7_count 79 = .ok (.aload_n 0, 1) := by decide +kernel
theorem dX7_count_80 : decode cX7_count 80 = .ok (.getfield 10, 3) := by decide +kernel
theorem dX7_count_83 : decode cX7_count 83 = .ok (.getfield 108, 3) := by decide +kernel
theorem dX7_count_86 : decode cX7_count 86 = .ok (.invokevirtual 112, 3) := by decide +kernel
theorem dX7_count_89 : decode cX7_count 89 = .ok (.aload_n 0, 1) := by decide +kernel
theorem dX7_count_90 : decode cX7_count 90 = .ok (.getfield 19, 3) := by decide +kernel
theorem dX7_count_93 : decode cX7_count 93 = .ok (.aload_n 0, 1) := by decide +kernel
theorem dX7_count_94 : decode cX7_count 94 = .ok (.getfield 10, 3) := by decide +kernel
theorem dX7_count_97 : decode cX7_count 97 = .ok (.invokevirtual 153, 3) := by decide +kernel
theorem dX7_count_100 : decode cX7_count 100 = .ok (.ireturn, 1) := by decide +kernel
theorem dX7_count_101 : decode cX7_count 101 = .ok (.aload_n 0, 1) := by decide +kernel
theorem dX7_count_102 : decode cX7_count 102 = .ok (.getfield 19, 3) := by decide +kernel
theorem dX7_count_105 : decode cX7_count 105 = .ok (.aload_n 0, 1) := by decide +kernel
theorem dX7_count_106 : decode cX7_count 106 = .ok (.getfield 10, 3) := by decide +kernel
theorem dX7_count_109 : decode cX7_count 109 = .ok (.aload_n 0, 1) := by decide +kernel
theorem dX7_count_110 : decode cX7_count 110 = .ok (.getfield 10, 3) := by decide +kernel
theorem dX7_count_113 : decode cX7_count 113 = .ok (.getfield 108, 3) := by decide +kernel
theorem dX7_count_116 : decode cX7_count 116 = .ok (.invokevirtual 112, 3) := by decide +kernel
theorem dX7_count_119 : decode cX7_count 119 = .ok (.aload_n 0, 1) := by decide +kernel
theorem dX7_count_120 : decode cX7_count 120 = .ok (.getfield 19, 3) := by decide +kernel
theorem dX7_count_123 : decode cX7_count 123 = .ok (.aload_n 0, 1) := by decide +kernel
theorem dX7_count_124 : decode cX7_count 124 = .ok (.getfield 10, 3) := by decide +kernel
theorem dX7_count_127 : decode cX7_count 127 = .ok (.invokevirtual 157, 3) := by decide +kernel
theorem dX7_count_130 : decode cX7_count 130 = .ok (.ireturn, 1) := by decide +kernel
theorem dX7_count_131 : decode cX7_count 131 = .ok (.aload_n 0, 1) := by decide +kernel
theorem dX7_count_132 : decode cX7_count 132 = .ok (.getfield 10, 3) := by decide +kernel
theorem dX7_count_135 : decode cX7_count 135 = .ok (.aload_n 0, 1) := by decide +kernel
theorem dX7_count_136 : decode cX7_count 136 = .ok (.getfield 10, 3) := by decide +kernel
theorem dX7_count_139 : decode cX7_count 139 = .ok (.getfield 160, 3) := by decide +kernel
theorem dX7_count_142 : decode cX7_count 142 = .ok (.invokevirtual 163, 3) := by decide +kernel
theorem dX7_count_145 : decode cX7_count 145 = .ok (.ireturn, 1) := by decide +kernel
theorem dX7_count_146 : decode cX7_count 146 = .ok (.aload_n 0, 1) := by decide +kernel
theorem dX7_count_147 : decode cX7_count 147 = .ok (.getfield 33, 3) := by decide +kernel
theorem dX7_count_150 : decode cX7_count 150 = .ok (.getfield 67, 3) := by decide +kernel
theorem dX7_count_153 : decode cX7_count 153 = .ok (.ireturn, 1) := by decide +kernel
theorem dX7_count_154 : decode cX7_count 154 = .ok (.aload_n 0, 1) := by decide +kernel
theorem dX7_count_155 : decode cX7_count 155 = .ok (.getfield 47, 3) := by decide +kernel
theorem dX7_count_158 : decode cX7_count 158 = .ok (.getfield 73, 3) := by decide +kernel
theorem dX7_count_161 : decode cX7_count 161 = .ok (.invokestatic 148, 3) := by decide +kernel
theorem dX7_count_164 : decode cX7_count 164 = .ok (.ireturn, 1) := by decide +kernel
theorem dX7_count_165 : decode cX7_count 165 = .ok (.aload_n 0, 1) := by decide +kernel
theorem dX7_count_166 : decode cX7_count 166 = .ok (.getfield 54, 3) := by decide +kernel
theorem dX7_count_169 : decode cX7_count 169 = .ok (.getfield 167, 3) := by decide +kernel
theorem dX7_count_172 : decode cX7_count 172 = .ok (.ireturn, 1) := by decide +kernel
theorem dX7_count_173 : decode cX7_count 173 = .ok (.aload_n 0, 1) := by decide +kernel
theorem dX7_count_174 : decode cX7_count 174 = .ok (.getfield 170, 3) := by decide +kernel
theorem dX7_count_177 : decode cX7_count 177 = .ok (.ireturn, 1) := by decide +kernel
theorem dX7_count_178 : decode cX7_count 178 = .ok (.ldc 66, 2) := by decide +kernel
theorem dX7_count_180 : decode cX7_count 180 = .ok (.ireturn, 1) := by decide +kernel
set_option maxRecDepth 20000 in
theorem ggX7_row_X2_takeRow : GoodIn wsX7_row wsX2_takeRow := goodIn_r _ [7, 8, 9, 10, 11, 12, 6, 13, 14, 15, 16, 17, 26, 27, 28, 29, 30, 31, 32, 33] (by decide +kernel) (by decide +kernel)
set_option maxRecDepth 20000 in
theorem gX7_row_X2_takeRow : GoodIn wsX7_row (wsV RX7 177 RX2 yX2_takeRow wsX2_takeRow) := goodIn_app (goodIn_of _ (by decide +kernel)) ggX7_row_X2_takeRow
theorem dX7_row_0 : decode cX7_row 0 = .ok (.aload_n 0, 1) := by decide +kernel
theorem dX7_row_1 : decode cX7_row 1 = .ok (.getfield 10, 3) := by decide +kernel
theorem dX7_row_4 : decode cX7_row 4 = .ok (.iload_n 1, 1) := by decide +kernel
theorem dX7_row_5 : decode cX7_row 5 = .ok (.invokevirtual 177, 3) := by decide +kernel
theorem dX7_row_8 : decode cX7_row 8 = .ok (.ifCond .eq 7, 3) := by decide +kernel
theorem dX7_row_11 : decode cX7_row 11 = .ok (.iconst 1, 1) := by decide +kernel
theorem dX7_row_12 : decode cX7_row 12 = .ok (.goto 5, 3) := by decide +kernel
theorem dX7_row_15 : decode cX7_row 15 = .ok (.ldc 66, 2) := by decide +kernel
theorem dX7_row_17 : decode cX7_row 17 = .ok (.ireturn, 1) := by decide +kernel
set_option maxRecDepth 20000 in
theorem ggX7_passes_X7_within : GoodIn wsX7_passes wsX7_within := goodIn_r _ [9] (by decide +kernel) (by decide +kernel)
set_option maxRecDepth 20000 in
theorem gX7_passes_X7_within : GoodIn wsX7_passes (va_wsS RX7 62 yX7_within wsX7_within) := goodIn_app (goodIn_of _ (by decide +kernel)) ggX7_passes_X7_within
set_option maxRecDepth 20000 in
theorem ggX7_passes_X1_keepTurns : GoodIn wsX7_passes wsX1_keepTurns := goodIn_r _ [14, 15, 16, 17, 18, 19, 20, 137, 138, 139, 140, 141, 142, 143, 144, 145, 146, 147, 148, 149, 150, 151] (by decide +kernel) (by decide +kernel)
set_option maxRecDepth 20000 in
theorem gX7_passes_X1_keepTurns : GoodIn wsX7_passes (wsV RX7 187 RX1 yX1_keepTurns wsX1_keepTurns) := goodIn_app (goodIn_of _ (by decide +kernel)) ggX7_passes_X1_keepTurns
set_option maxRecDepth 20000 in
theorem ggX7_passes_X1_goRounds : GoodIn wsX7_passes wsX1_goRounds := goodIn_r _ [24, 25, 26, 27, 13, 28, 29, 30, 31, 32, 33, 34, 35, 36, 37, 38, 39, 40, 41, 42, 43, 44, 45, 46, 47, 48, 49, 50, 51, 52, 53, 54, 55, 56, 57, 58, 59, 60, 61, 62, 63, 64, 65, 66, 67, 68, 69, 70, 71, 72, 73, 74, 75, 76, 77, 78, 79, 80, 81, 82, 83, 84, 85, 86, 87, 88, 89, 90, 91, 92, 93, 94, 95, 96, 97, 98, 99, 100, 101, 102, 103, 104, 15, 105, 106, 107, 108, 109, 110, 111, 112, 113, 114, 115, 116, 117, 118, 119, 120, 121, 122, 123, 8, 124, 145, 146, 147, 148, 149, 150, 151, 137, 138, 139, 140, 141, 142, 143, 144, 152, 153, 154, 155, 156, 157] (by decide +kernel) (by decide +kernel)
set_option maxRecDepth 20000 in
theorem gX7_passes_X1_goRounds : GoodIn wsX7_passes (wsV RX7 191 RX1 yX1_goRounds wsX1_goRounds) := goodIn_app (goodIn_of _ (by decide +kernel)) ggX7_passes_X1_goRounds
set_option maxRecDepth 20000 in
theorem ggX7_passes_X1_putTurnsBack : GoodIn wsX7_passes wsX1_putTurnsBack := goodIn_r _ [128, 16, 15, 17, 18, 19, 20, 145, 146, 147, 148, 149, 150, 151, 137, 138, 139, 140, 141, 142, 143, 144] (by decide +kernel) (by decide +kernel)
set_option maxRecDepth 20000 in
theorem gX7_passes_X1_putTurnsBack : GoodIn wsX7_passes (wsV RX7 195 RX1 yX1_putTurnsBack wsX1_putTurnsBack) := goodIn_app (goodIn_of _ (by decide +kernel)) ggX7_passes_X1_putTurnsBack
theorem dX7_passes_0 : decode cX7_passes 0 = .ok (.iload_n 1, 1) := by decide +kernel
theorem dX7_passes_1 : decode cX7_passes 1 = .ok (.iconst 1, 1) := by decide +kernel
theorem dX7_passes_2 : decode cX7_passes 2 = .ok (.sipush 900, 3) := by decide +kernel
theorem dX7_passes_5 : decode cX7_passes 5 = .ok (.invokestatic 62, 3) := by decide +kernel
theorem dX7_passes_8 : decode cX7_passes 8 = .ok (.ifCond .ne 6, 3) := by decide +kernel
theorem dX7_passes_11 : decode cX7_passes 11 = .ok (.ldc 66, 2) := by decide +kernel
theorem dX7_passes_13 : decode cX7_passes 13 = .ok (.ireturn, 1) := by decide +kernel
theorem dX7_passes_14 : decode cX7_passes 14 = .ok (.aload_n 0, 1) := by decide +kernel
theorem dX7_passes_15 : decode cX7_passes 15 = .ok (.getfield 26, 3) := by decide +kernel
theorem dX7_passes_18 : decode cX7_passes 18 = .ok (.aload_n 0, 1) := by decide +kernel
theorem dX7_passes_19 : decode cX7_passes 19 = .ok (.getfield 10, 3) := by decide +kernel
theorem dX7_passes_22 : decode cX7_passes 22 = .ok (.invokevirtual 187, 3) := by decide +kernel
theorem dX7_passes_25 : decode cX7_passes 25 = .ok (.aload_n 0, 1) := by decide +kernel
theorem dX7_passes_26 : decode cX7_passes 26 = .ok (.getfield 26, 3) := by decide +kernel
theorem dX7_passes_29 : decode cX7_passes 29 = .ok (.aload_n 0, 1) := by decide +kernel
theorem dX7_passes_30 : decode cX7_passes 30 = .ok (.getfield 10, 3) := by decide +kernel
theorem dX7_passes_33 : decode cX7_passes 33 = .ok (.aload_n 0, 1) := by decide +kernel
theorem dX7_passes_34 : decode cX7_passes 34 = .ok (.getfield 10, 3) := by decide +kernel
theorem dX7_passes_37 : decode cX7_passes 37 = .ok (.getfield 180, 3) := by decide +kernel
theorem dX7_passes_40 : decode cX7_passes 40 = .ok (.iload_n 1, 1) := by decide +kernel
theorem dX7_passes_41 : decode cX7_passes 41 = .ok (.bipush 20, 2) := by decide +kernel
theorem dX7_passes_43 : decode cX7_passes 43 = .ok (.invokevirtual 191, 3) := by decide +kernel
theorem dX7_passes_46 : decode cX7_passes 46 = .ok (.istore_n 2, 1) := by decide +kernel
theorem dX7_passes_47 : decode cX7_passes 47 = .ok (.iload_n 2, 1) := by decide +kernel
theorem dX7_passes_48 : decode cX7_passes 48 = .ok (.iconst (-1), 1) := by decide +kernel
theorem dX7_passes_49 : decode cX7_passes 49 = .ok (.if_icmp .ne 17, 3) := by decide +kernel
theorem dX7_passes_52 : decode cX7_passes 52 = .ok (.aload_n 0, 1) := by decide +kernel
theorem dX7_passes_53 : decode cX7_passes 53 = .ok (.getfield 26, 3) := by decide +kernel
theorem dX7_passes_56 : decode cX7_passes 56 = .ok (.aload_n 0, 1) := by decide +kernel
theorem dX7_passes_57 : decode cX7_passes 57 = .ok (.getfield 10, 3) := by decide +kernel
theorem dX7_passes_60 : decode cX7_passes 60 = .ok (.invokevirtual 195, 3) := by decide +kernel
theorem dX7_passes_63 : decode cX7_passes 63 = .ok (.ldc 99, 2) := by decide +kernel
theorem dX7_passes_65 : decode cX7_passes 65 = .ok (.ireturn, 1) := by decide +kernel
theorem dX7_passes_66 : decode cX7_passes 66 = .ok (.iload_n 2, 1) := by decide +kernel
theorem dX7_passes_67 : decode cX7_passes 67 = .ok (.ireturn, 1) := by decide +kernel
set_option maxRecDepth 20000 in
theorem ggX7_best_X7_within : GoodIn wsX7_best wsX7_within := goodIn_r _ [13] (by decide +kernel) (by decide +kernel)
set_option maxRecDepth 20000 in
theorem gX7_best_X7_within : GoodIn wsX7_best (va_wsS RX7 62 yX7_within wsX7_within) := goodIn_app (goodIn_of _ (by decide +kernel)) ggX7_best_X7_within
set_option maxRecDepth 20000 in
theorem ggX7_best_X1_findBestRow : GoodIn wsX7_best wsX1_findBestRow := goodIn_r _ [18, 19, 20, 21, 22, 23, 24, 25, 26, 27, 28, 29, 30, 31, 32, 17, 33, 34, 35, 36, 37, 38, 39, 40, 41, 42, 43, 44, 45, 46, 47, 48, 49, 50, 51, 52, 53, 54, 55, 56, 57, 58, 59, 60, 61, 62, 63, 64, 65, 66, 67, 68, 69, 70, 71, 72, 73, 74, 75, 76, 77, 78, 79, 80, 81, 82, 83, 84, 85, 86, 87, 88, 89, 90, 91, 92, 93, 94, 95, 96, 97, 98, 99, 100, 101, 102, 103, 104, 105, 106, 107, 108, 109, 110, 111, 112, 113, 114, 115, 116, 117, 118, 119, 120, 121, 122, 123, 124, 125, 126, 127, 128, 129, 130, 131, 132, 133, 134, 135, 136, 12, 137, 138, 139, 140, 141, 142, 143, 144, 145, 146, 147, 148, 149, 150, 159, 160, 161, 162, 163, 164, 165, 166, 167, 168, 169, 170, 171, 172, 173, 174, 175, 176, 177, 178, 179] (by decide +kernel) (by decide +kernel)
set_option maxRecDepth 20000 in
theorem gX7_best_X1_findBestRow : GoodIn wsX7_best (wsV RX7 199 RX1 yX1_findBestRow wsX1_findBestRow) := goodIn_app (goodIn_of _ (by decide +kernel)) ggX7_best_X1_findBestRow
theorem dX7_best_0 : decode cX7_best 0 = .ok (.iload_n 1, 1) := by decide +kernel
theorem dX7_best_1 : decode cX7_best 1 = .ok (.iconst 1, 1) := by decide +kernel
theorem dX7_best_2 : decode cX7_best 2 = .ok (.sipush 900, 3) := by decide +kernel
theorem dX7_best_5 : decode cX7_best 5 = .ok (.invokestatic 62, 3) := by decide +kernel
theorem dX7_best_8 : decode cX7_best 8 = .ok (.ifCond .eq 12, 3) := by decide +kernel
theorem dX7_best_11 : decode cX7_best 11 = .ok (.iload_n 2, 1) := by decide +kernel
theorem dX7_best_12 : decode cX7_best 12 = .ok (.iconst 0, 1) := by decide +kernel
theorem dX7_best_13 : decode cX7_best 13 = .ok (.iconst 2, 1) := by decide +kernel
theorem dX7_best_14 : decode cX7_best 14 = .ok (.invokestatic 62, 3) := by decide +kernel
theorem dX7_best_17 : decode cX7_best 17 = .ok (.ifCond .ne 6, 3) := by decide +kernel
theorem dX7_best_20 : decode cX7_best 20 = .ok (.ldc 66, 2) := by decide +kernel
theorem dX7_best_22 : decode cX7_best 22 = .ok (.ireturn, 1) := by decide +kernel
theorem dX7_best_23 : decode cX7_best 23 = .ok (.aload_n 0, 1) := by decide +kernel
theorem dX7_best_24 : decode cX7_best 24 = .ok (.getfield 10, 3) := by decide +kernel
theorem dX7_best_27 : decode cX7_best 27 = .ok (.getfield 142, 3) := by decide +kernel
theorem dX7_best_30 : decode cX7_best 30 = .ok (.bipush 6, 2) := by decide +kernel
theorem dX7_best_32 : decode cX7_best 32 = .ok (.if_icmp .ne 6, 3) := by decide +kernel
theorem dX7_best_35 : decode cX7_best 35 = .ok (.ldc 198, 2) := by decide +kernel
theorem dX7_best_37 : decode cX7_best 37 = .ok (.ireturn, 1) := by decide +kernel
theorem dX7_best_38 : decode cX7_best 38 = .ok (.aload_n 0, 1) := by decide +kernel
theorem dX7_best_39 : decode cX7_best 39 = .ok (.getfield 26, 3) := by decide +kernel
theorem dX7_best_42 : decode cX7_best 42 = .ok (.aload_n 0, 1) := by decide +kernel
theorem dX7_best_43 : decode cX7_best 43 = .ok (.getfield 10, 3) := by decide +kernel
theorem dX7_best_46 : decode cX7_best 46 = .ok (.iload_n 1, 1) := by decide +kernel
theorem dX7_best_47 : decode cX7_best 47 = .ok (.invokevirtual 199, 3) := by decide +kernel
theorem dX7_best_50 : decode cX7_best 50 = .ok (.aload_n 0, 1) := by decide +kernel
theorem dX7_best_51 : decode cX7_best 51 = .ok (.getfield 26, 3) := by decide +kernel
theorem dX7_best_54 : decode cX7_best 54 = .ok (.getfield 203, 3) := by decide +kernel
theorem dX7_best_57 : decode cX7_best 57 = .ok (.iconst (-1), 1) := by decide +kernel
theorem dX7_best_58 : decode cX7_best 58 = .ok (.if_icmp .ne 6, 3) := by decide +kernel
theorem dX7_best_61 : decode cX7_best 61 = .ok (.ldc 99, 2) := by decide +kernel
theorem dX7_best_63 : decode cX7_best 63 = .ok (.ireturn, 1) := by decide +kernel
theorem dX7_best_64 : decode cX7_best 64 = .ok (.iload_n 2, 1) := by decide +kernel
theorem dX7_best_65 : decode cX7_best 65 = .ok (.ifCond .ne 11, 3) := by decide +kernel
theorem dX7_best_68 : decode cX7_best 68 = .ok (.aload_n 0, 1) := by decide +kernel
theorem dX7_best_69 : decode cX7_best 69 = .ok (.getfield 26, 3) := by decide +kernel
theorem dX7_best_72 : decode cX7_best 72 = .ok (.getfield 206, 3) := by decide +kernel
theorem dX7_best_75 : decode cX7_best 75 = .ok (.ireturn, 1) := by decide +kernel
theorem dX7_best_76 : decode cX7_best 76 = .ok (.iload_n 2, 1) := by decide +kernel
theorem dX7_best_77 : decode cX7_best 77 = .ok (.iconst 1, 1) := by decide +kernel
theorem dX7_best_78 : decode cX7_best 78 = .ok (.if_icmp .ne 13, 3) := by decide +kernel
theorem dX7_best_81 : decode cX7_best 81 = .ok (.aload_n 0, 1) := by decide +kernel
theorem dX7_best_82 : decode cX7_best 82 = .ok (.getfield 26, 3) := by decide +kernel
theorem dX7_best_85 : decode cX7_best 85 = .ok (.getfield 203, 3) := by decide +kernel
theorem dX7_best_88 : decode cX7_best 88 = .ok (.goto 10, 3) := by decide +kernel
theorem dX7_best_91 : decode cX7_best 91 = .ok (.aload_n 0, 1) := by decide +kernel
theorem dX7_best_92 : decode cX7_best 92 = .ok (.getfield 26, 3) := by decide +kernel
theorem dX7_best_95 : decode cX7_best 95 = .ok (.getfield 209, 3) := by decide +kernel
theorem dX7_best_98 : decode cX7_best 98 = .ok (.ireturn, 1) := by decide +kernel
set_option maxRecDepth 20000 in
theorem ggX7_even_X2_has : GoodIn wsX7_even wsX2_has := goodIn_r _ [11, 12, 129, 130, 131, 132, 133, 134, 135, 136] (by decide +kernel) (by decide +kernel)
set_option maxRecDepth 20000 in
theorem gX7_even_X2_has : GoodIn wsX7_even (wsV RX7 76 RX2 yX2_has wsX2_has) := goodIn_app (goodIn_of _ (by decide +kernel)) ggX7_even_X2_has
set_option maxRecDepth 20000 in
theorem ggX7_even_X7_within : GoodIn wsX7_even wsX7_within := goodIn_r _ [16] (by decide +kernel) (by decide +kernel)
set_option maxRecDepth 20000 in
theorem gX7_even_X7_within : GoodIn wsX7_even (va_wsS RX7 62 yX7_within wsX7_within) := goodIn_app (goodIn_of _ (by decide +kernel)) ggX7_even_X7_within
set_option maxRecDepth 20000 in
theorem ggX7_even_X1_keepTurns : GoodIn wsX7_even wsX1_keepTurns := goodIn_r _ [21, 22, 23, 24, 25, 26, 27, 129, 130, 131, 132, 133, 134, 135, 136, 137, 138, 139, 140, 141, 142, 143] (by decide +kernel) (by decide +kernel)
set_option maxRecDepth 20000 in
theorem gX7_even_X1_keepTurns : GoodIn wsX7_even (wsV RX7 187 RX1 yX1_keepTurns wsX1_keepTurns) := goodIn_app (goodIn_of _ (by decide +kernel)) ggX7_even_X1_keepTurns
set_option maxRecDepth 20000 in
theorem ggX7_even_X1_drawEvenFromNothing : GoodIn wsX7_even wsX1_drawEvenFromNothing := goodIn_r _ [31, 32, 22, 33, 34, 35, 36, 10, 37, 38, 39, 40, 41, 20, 42, 43, 44, 45, 46, 47, 48, 49, 50, 51, 52, 53, 54, 55, 56, 57, 58, 59, 60, 12, 61, 62, 63, 64, 65, 66, 67, 68, 69, 70, 71, 72, 73, 74, 75, 76, 77, 78, 79, 80, 81, 82, 83, 84, 85, 86, 87, 88, 89, 90, 91, 92, 93, 94, 95, 96, 97, 98, 99, 100, 101, 102, 103, 104, 105, 106, 107, 108, 109, 110, 111, 112, 113, 114, 15, 115, 129, 130, 131, 132, 133, 134, 135, 136, 137, 138, 139, 140, 141, 142, 143, 144, 145, 146, 147, 148, 149] (by decide +kernel) (by decide +kernel)
set_option maxRecDepth 20000 in
theorem gX7_even_X1_drawEvenFromNothing : GoodIn wsX7_even (wsV RX7 212 RX1 yX1_drawEvenFromNothing wsX1_drawEvenFromNothing) := goodIn_app (goodIn_of _ (by decide +kernel)) ggX7_even_X1_drawEvenFromNothing
set_option maxRecDepth 20000 in
theorem ggX7_even_X2_sumOf : GoodIn wsX7_even wsX2_sumOf := goodIn_r _ [71, 12, 129, 130, 131, 132, 133, 134, 135, 136] (by decide +kernel) (by decide +kernel)
set_option maxRecDepth 20000 in
theorem gX7_even_X2_sumOf : GoodIn wsX7_even (wsV RX7 163 RX2 yX2_sumOf wsX2_sumOf) := goodIn_app (goodIn_of _ (by decide +kernel)) ggX7_even_X2_sumOf
set_option maxRecDepth 20000 in
theorem ggX7_even_X1_putTurnsBack : GoodIn wsX7_even wsX1_putTurnsBack := goodIn_r _ [120, 23, 22, 24, 25, 26, 27, 137, 138, 139, 140, 141, 142, 143, 129, 130, 131, 132, 133, 134, 135, 136] (by decide +kernel) (by decide +kernel)
set_option maxRecDepth 20000 in
theorem gX7_even_X1_putTurnsBack : GoodIn wsX7_even (wsV RX7 195 RX1 yX1_putTurnsBack wsX1_putTurnsBack) := goodIn_app (goodIn_of _ (by decide +kernel)) ggX7_even_X1_putTurnsBack
theorem dX7_even_0 : decode cX7_even 0 = .ok (.iload_n 2, 1) := by decide +kernel
theorem dX7_even_1 : decode cX7_even 1 = .ok (.iconst (-1), 1) := by decide +kernel
theorem dX7_even_2 : decode cX7_even 2 = .ok (.if_icmp .eq 17, 3) := by decide +kernel
theorem dX7_even_5 : decode cX7_even 5 = .ok (.aload_n 0, 1) := by decide +kernel
theorem dX7_even_6 : decode cX7_even 6 = .ok (.getfield 10, 3) := by decide +kernel
theorem dX7_even_9 : decode cX7_even 9 = .ok (.iload_n 2, 1) := by decide +kernel
theorem dX7_even_10 : decode cX7_even 10 = .ok (.invokevirtual 76, 3) := by decide +kernel
theorem dX7_even_13 : decode cX7_even 13 = .ok (.ifCond .ne 6, 3) := by decide +kernel
theorem dX7_even_16 : decode cX7_even 16 = .ok (.ldc 80, 2) := by decide +kernel
theorem dX7_even_18 : decode cX7_even 18 = .ok (.ireturn, 1) := by decide +kernel
theorem dX7_even_19 : decode cX7_even 19 = .ok (.iload_n 1, 1) := by decide +kernel
theorem dX7_even_20 : decode cX7_even 20 = .ok (.iconst 1, 1) := by decide +kernel
theorem dX7_even_21 : decode cX7_even 21 = .ok (.sipush 900, 3) := by decide +kernel
theorem dX7_even_24 : decode cX7_even 24 = .ok (.invokestatic 62, 3) := by decide +kernel
theorem dX7_even_27 : decode cX7_even 27 = .ok (.ifCond .ne 6, 3) := by decide +kernel
theorem dX7_even_30 : decode cX7_even 30 = .ok (.ldc 66, 2) := by decide +kernel
theorem dX7_even_32 : decode cX7_even 32 = .ok (.ireturn, 1) := by decide +kernel
theorem dX7_even_33 : decode cX7_even 33 = .ok (.aload_n 0, 1) := by decide +kernel
theorem dX7_even_34 : decode cX7_even 34 = .ok (.getfield 26, 3) := by decide +kernel
theorem dX7_even_37 : decode cX7_even 37 = .ok (.aload_n 0, 1) := by decide +kernel
theorem dX7_even_38 : decode cX7_even 38 = .ok (.getfield 10, 3) := by decide +kernel
theorem dX7_even_41 : decode cX7_even 41 = .ok (.invokevirtual 187, 3) := by decide +kernel
theorem dX7_even_44 : decode cX7_even 44 = .ok (.aload_n 0, 1) := by decide +kernel
theorem dX7_even_45 : decode cX7_even 45 = .ok (.getfield 26, 3) := by decide +kernel
theorem dX7_even_48 : decode cX7_even 48 = .ok (.aload_n 0, 1) := by decide +kernel
theorem dX7_even_49 : decode cX7_even 49 = .ok (.getfield 10, 3) := by decide +kernel
theorem dX7_even_52 : decode cX7_even 52 = .ok (.iload_n 1, 1) := by decide +kernel
theorem dX7_even_53 : decode cX7_even 53 = .ok (.invokevirtual 212, 3) := by decide +kernel
theorem dX7_even_56 : decode cX7_even 56 = .ok (.istore_n 3, 1) := by decide +kernel
theorem dX7_even_57 : decode cX7_even 57 = .ok (.iload_n 2, 1) := by decide +kernel
theorem dX7_even_58 : decode cX7_even 58 = .ok (.iconst (-1), 1) := by decide +kernel
theorem dX7_even_59 : decode cX7_even 59 = .ok (.if_icmp .ne 20, 3) := by decide +kernel
theorem dX7_even_62 : decode cX7_even 62 = .ok (.aload_n 0, 1) := by decide +kernel
theorem dX7_even_63 : decode cX7_even 63 = .ok (.getfield 10, 3) := by decide +kernel
theorem dX7_even_66 : decode cX7_even 66 = .ok (.aload_n 0, 1) := by decide +kernel
theorem dX7_even_67 : decode cX7_even 67 = .ok (.getfield 10, 3) := by decide +kernel
theorem dX7_even_70 : decode cX7_even 70 = .ok (.getfield 160, 3) := by decide +kernel
theorem dX7_even_73 : decode cX7_even 73 = .ok (.invokevirtual 163, 3) := by decide +kernel
theorem dX7_even_76 : decode cX7_even 76 = .ok (.goto 12, 3) := by decide +kernel
theorem dX7_even_79 : decode cX7_even 79 = .ok (.aload_n 0, 1) := by decide +kernel
theorem dX7_even_80 : decode cX7_even 80 = .ok (.getfield 10, 3) := by decide +kernel
theorem dX7_even_83 : decode cX7_even 83 = .ok (.getfield 160, 3) := by decide +kernel
theorem dX7_even_86 : decode cX7_even 86 = .ok (.iload_n 2, 1) := by decide +kernel
theorem dX7_even_87 : decode cX7_even 87 = .ok (.iaload, 1) := by decide +kernel
theorem dX7_even_88 : decode cX7_even 88 = .ok (.istore 4, 2) := by decide +kernel
theorem dX7_even_90 : decode cX7_even 90 = .ok (.aload_n 0, 1) := by decide +kernel
theorem dX7_even_91 : decode cX7_even 91 = .ok (.getfield 26, 3) := by decide +kernel
theorem dX7_even_94 : decode cX7_even 94 = .ok (.aload_n 0, 1) := by decide +kernel
theorem dX7_even_95 : decode cX7_even 95 = .ok (.getfield 10, 3) := by decide +kernel
theorem dX7_even_98 : decode cX7_even 98 = .ok (.invokevirtual 195, 3) := by decide +kernel
theorem dX7_even_101 : decode cX7_even 101 = .ok (.iload_n 3, 1) := by decide +kernel
theorem dX7_even_102 : decode cX7_even 102 = .ok (.ifCond .eq 8, 3) := by decide +kernel
theorem dX7_even_105 : decode cX7_even 105 = .ok (.iload 4, 2) := by decide +kernel
theorem dX7_even_107 : decode cX7_even 107 = .ok (.goto 5, 3) := by decide +kernel
theorem dX7_even_110 : decode cX7_even 110 = .ok (.ldc 99, 2) := by decide +kernel
theorem dX7_even_112 : decode cX7_even 112 = .ok (.ireturn, 1) := by decide +kernel
theorem dX7_within_0 : decode cX7_within 0 = .ok (.iload_n 0, 1) := by decide +kernel
theorem dX7_within_1 : decode cX7_within 1 = .ok (.iload_n 1, 1) := by decide +kernel
theorem dX7_within_2 : decode cX7_within 2 = .ok (.if_icmp .lt 12, 3) := by decide +kernel
theorem dX7_within_5 : decode cX7_within 5 = .ok (.iload_n 0, 1) := by decide +kernel
theorem dX7_within_6 : decode cX7_within 6 = .ok (.iload_n 2, 1) := by decide +kernel
theorem dX7_within_7 : decode cX7_within 7 = .ok (.if_icmp .gt 7, 3) := by decide +kernel
theorem dX7_within_10 : decode cX7_within 10 = .ok (.iconst 1, 1) := by decide +kernel
theorem dX7_within_11 : decode cX7_within 11 = .ok (.goto 4, 3) := by decide +kernel
theorem dX7_within_14 : decode cX7_within 14 = .ok (.iconst 0, 1) := by decide +kernel
theorem dX7_within_15 : decode cX7_within 15 = .ok (.ireturn, 1) := by decide +kernel
theorem dX7_asNumber_0 : decode cX7_asNumber 0 = .ok (.iload_n 0, 1) := by decide +kernel
theorem dX7_asNumber_1 : decode cX7_asNumber 1 = .ok (.ifCond .eq 7, 3) := by decide +kernel
theorem dX7_asNumber_4 : decode cX7_asNumber 4 = .ok (.iconst 1, 1) := by decide +kernel
theorem dX7_asNumber_5 : decode cX7_asNumber 5 = .ok (.goto 4, 3) := by decide +kernel
theorem dX7_asNumber_8 : decode cX7_asNumber 8 = .ok (.iconst 0, 1) := by decide +kernel
theorem dX7_asNumber_9 : decode cX7_asNumber 9 = .ok (.ireturn, 1) := by decide +kernel
theorem dX7_leastOf_0 : decode cX7_leastOf 0 = .ok (.iload_n 0, 1) := by decide +kernel
theorem dX7_leastOf_1 : decode cX7_leastOf 1 = .ok (.ifCond .eq 8, 3) := by decide +kernel
theorem dX7_leastOf_4 : decode cX7_leastOf 4 = .ok (.iload_n 0, 1) := by decide +kernel
theorem dX7_leastOf_5 : decode cX7_leastOf 5 = .ok (.iconst 1, 1) := by decide +kernel
theorem dX7_leastOf_6 : decode cX7_leastOf 6 = .ok (.if_icmp .ne 7, 3) := by decide +kernel
theorem dX7_leastOf_9 : decode cX7_leastOf 9 = .ok (.iconst 1, 1) := by decide +kernel
theorem dX7_leastOf_10 : decode cX7_leastOf 10 = .ok (.goto 4, 3) := by decide +kernel
theorem dX7_leastOf_13 : decode cX7_leastOf 13 = .ok (.iconst 0, 1) := by decide +kernel
theorem dX7_leastOf_14 : decode cX7_leastOf 14 = .ok (.ireturn, 1) := by decide +kernel
theorem dX7_mostOf_0 : decode cX7_mostOf 0 = .ok (.iload_n 0, 1) := by decide +kernel
theorem dX7_mostOf_1 : decode cX7_mostOf 1 = .ok (.iconst 2, 1) := by decide +kernel
theorem dX7_mostOf_2 : decode cX7_mostOf 2 = .ok (.if_icmp .ne 7, 3) := by decide +kernel
theorem dX7_mostOf_5 : decode cX7_mostOf 5 = .ok (.sipush 200, 3) := by decide +kernel
theorem dX7_mostOf_8 : decode cX7_mostOf 8 = .ok (.ireturn, 1) := by decide +kernel
theorem dX7_mostOf_9 : decode cX7_mostOf 9 = .ok (.iload_n 0, 1) := by decide +kernel
theorem dX7_mostOf_10 : decode cX7_mostOf 10 = .ok (.iconst 3, 1) := by decide +kernel
theorem dX7_mostOf_11 : decode cX7_mostOf 11 = .ok (.if_icmp .ne 9, 3) := by decide +kernel
theorem dX7_mostOf_14 : decode cX7_mostOf 14 = .ok (.sipush 200, 3) := by decide +kernel
theorem dX7_mostOf_17 : decode cX7_mostOf 17 = .ok (.goto 5, 3) := by decide +kernel
theorem dX7_mostOf_20 : decode cX7_mostOf 20 = .ok (.bipush 9, 2) := by decide +kernel
theorem dX7_mostOf_22 : decode cX7_mostOf 22 = .ok (.ireturn, 1) := by decide +kernel
theorem dX7_wholeFrom_0 : decode cX7_wholeFrom 0 = .ok (.lload_n 0, 1) := by decide +kernel
theorem dX7_wholeFrom_1 : decode cX7_wholeFrom 1 = .ok (.lconst 0, 1) := by decide +kernel
theorem dX7_wholeFrom_2 : decode cX7_wholeFrom 2 = .ok (.lcmp, 1) := by decide +kernel
theorem dX7_wholeFrom_3 : decode cX7_wholeFrom 3 = .ok (.ifCond .le 9, 3) := by decide +kernel
theorem dX7_wholeFrom_6 : decode cX7_wholeFrom 6 = .ok (.lload_n 2, 1) := by decide +kernel
theorem dX7_wholeFrom_7 : decode cX7_wholeFrom 7 = .ok (.lconst 0, 1) := by decide +kernel
theorem dX7_wholeFrom_8 : decode cX7_wholeFrom 8 = .ok (.lcmp, 1) := by decide +kernel
theorem dX7_wholeFrom_9 : decode cX7_wholeFrom 9 = .ok (.ifCond .gt 7, 3) := by decide +kernel
theorem dX7_wholeFrom_12 : decode cX7_wholeFrom 12 = .ok (.lconst 0, 1) := by decide +kernel
theorem dX7_wholeFrom_13 : decode cX7_wholeFrom 13 = .ok (.goto 10, 3) := by decide +kernel
theorem dX7_wholeFrom_16 : decode cX7_wholeFrom 16 = .ok (.lload_n 0, 1) := by decide +kernel
theorem dX7_wholeFrom_17 : decode cX7_wholeFrom 17 = .ok (.lload_n 2, 1) := by decide +kernel
theorem dX7_wholeFrom_18 : decode cX7_wholeFrom 18 = .ok (.ladd, 1) := by decide +kernel
theorem dX7_wholeFrom_19 : decode cX7_wholeFrom 19 = .ok (.lconst 1, 1) := by decide +kernel
theorem dX7_wholeFrom_20 : decode cX7_wholeFrom 20 = .ok (.lsub, 1) := by decide +kernel
theorem dX7_wholeFrom_21 : decode cX7_wholeFrom 21 = .ok (.lload_n 2, 1) := by decide +kernel
theorem dX7_wholeFrom_22 : decode cX7_wholeFrom 22 = .ok (.ldiv, 1) := by decide +kernel
theorem dX7_wholeFrom_23 : decode cX7_wholeFrom 23 = .ok (.lreturn, 1) := by decide +kernel
theorem dJ6_bitCount_0f7a4_0 : decode cJ6_bitCount_0f7a4 0 = .ok (.iload_n 0, 1) := by decide +kernel
theorem dJ6_bitCount_0f7a4_1 : decode cJ6_bitCount_0f7a4 1 = .ok (.iload_n 0, 1) := by decide +kernel
theorem dJ6_bitCount_0f7a4_2 : decode cJ6_bitCount_0f7a4 2 = .ok (.iconst 1, 1) := by decide +kernel
theorem dJ6_bitCount_0f7a4_3 : decode cJ6_bitCount_0f7a4 3 = .ok (.iushr, 1) := by decide +kernel
theorem dJ6_bitCount_0f7a4_4 : decode cJ6_bitCount_0f7a4 4 = .ok (.ldc_w 265, 3) := by decide +kernel
theorem dJ6_bitCount_0f7a4_7 : decode cJ6_bitCount_0f7a4 7 = .ok (.iand, 1) := by decide +kernel
theorem dJ6_bitCount_0f7a4_8 : decode cJ6_bitCount_0f7a4 8 = .ok (.isub, 1) := by decide +kernel
theorem dJ6_bitCount_0f7a4_9 : decode cJ6_bitCount_0f7a4 9 = .ok (.istore_n 0, 1) := by decide +kernel
theorem dJ6_bitCount_0f7a4_10 : decode cJ6_bitCount_0f7a4 10 = .ok (.iload_n 0, 1) := by decide +kernel
theorem dJ6_bitCount_0f7a4_11 : decode cJ6_bitCount_0f7a4 11 = .ok (.ldc_w 266, 3) := by decide +kernel
theorem dJ6_bitCount_0f7a4_14 : decode cJ6_bitCount_0f7a4 14 = .ok (.iand, 1) := by decide +kernel
theorem dJ6_bitCount_0f7a4_15 : decode cJ6_bitCount_0f7a4 15 = .ok (.iload_n 0, 1) := by decide +kernel
theorem dJ6_bitCount_0f7a4_16 : decode cJ6_bitCount_0f7a4 16 = .ok (.iconst 2, 1) := by decide +kernel
theorem dJ6_bitCount_0f7a4_17 : decode cJ6_bitCount_0f7a4 17 = .ok (.iushr, 1) := by decide +kernel
theorem dJ6_bitCount_0f7a4_18 : decode cJ6_bitCount_0f7a4 18 = .ok (.ldc_w 266, 3) := by decide +kernel
theorem dJ6_bitCount_0f7a4_21 : decode cJ6_bitCount_0f7a4 21 = .ok (.iand, 1) := by decide +kernel
theorem dJ6_bitCount_0f7a4_22 : decode cJ6_bitCount_0f7a4 22 = .ok (.iadd, 1) := by decide +kernel
theorem dJ6_bitCount_0f7a4_23 : decode cJ6_bitCount_0f7a4 23 = .ok (.istore_n 0, 1) := by decide +kernel
theorem dJ6_bitCount_0f7a4_24 : decode cJ6_bitCount_0f7a4 24 = .ok (.iload_n 0, 1) := by decide +kernel
theorem dJ6_bitCount_0f7a4_25 : decode cJ6_bitCount_0f7a4 25 = .ok (.iload_n 0, 1) := by decide +kernel
theorem dJ6_bitCount_0f7a4_26 : decode cJ6_bitCount_0f7a4 26 = .ok (.iconst 4, 1) := by decide +kernel
theorem dJ6_bitCount_0f7a4_27 : decode cJ6_bitCount_0f7a4 27 = .ok (.iushr, 1) := by decide +kernel
theorem dJ6_bitCount_0f7a4_28 : decode cJ6_bitCount_0f7a4 28 = .ok (.iadd, 1) := by decide +kernel
theorem dJ6_bitCount_0f7a4_29 : decode cJ6_bitCount_0f7a4 29 = .ok (.ldc_w 267, 3) := by decide +kernel
theorem dJ6_bitCount_0f7a4_32 : decode cJ6_bitCount_0f7a4 32 = .ok (.iand, 1) := by decide +kernel
theorem dJ6_bitCount_0f7a4_33 : decode cJ6_bitCount_0f7a4 33 = .ok (.istore_n 0, 1) := by decide +kernel
theorem dJ6_bitCount_0f7a4_34 : decode cJ6_bitCount_0f7a4 34 = .ok (.iload_n 0, 1) := by decide +kernel
theorem dJ6_bitCount_0f7a4_35 : decode cJ6_bitCount_0f7a4 35 = .ok (.iload_n 0, 1) := by decide +kernel
theorem dJ6_bitCount_0f7a4_36 : decode cJ6_bitCount_0f7a4 36 = .ok (.bipush 8, 2) := by decide +kernel
theorem dJ6_bitCount_0f7a4_38 : decode cJ6_bitCount_0f7a4 38 = .ok (.iushr, 1) := by decide +kernel
theorem dJ6_bitCount_0f7a4_39 : decode cJ6_bitCount_0f7a4 39 = .ok (.iadd, 1) := by decide +kernel
theorem dJ6_bitCount_0f7a4_40 : decode cJ6_bitCount_0f7a4 40 = .ok (.istore_n 0, 1) := by decide +kernel
theorem dJ6_bitCount_0f7a4_41 : decode cJ6_bitCount_0f7a4 41 = .ok (.iload_n 0, 1) := by decide +kernel
theorem dJ6_bitCount_0f7a4_42 : decode cJ6_bitCount_0f7a4 42 = .ok (.iload_n 0, 1) := by decide +kernel
theorem dJ6_bitCount_0f7a4_43 : decode cJ6_bitCount_0f7a4 43 = .ok (.bipush 16, 2) := by decide +kernel
theorem dJ6_bitCount_0f7a4_45 : decode cJ6_bitCount_0f7a4 45 = .ok (.iushr, 1) := by decide +kernel
theorem dJ6_bitCount_0f7a4_46 : decode cJ6_bitCount_0f7a4 46 = .ok (.iadd, 1) := by decide +kernel
theorem dJ6_bitCount_0f7a4_47 : decode cJ6_bitCount_0f7a4 47 = .ok (.istore_n 0, 1) := by decide +kernel
theorem dJ6_bitCount_0f7a4_48 : decode cJ6_bitCount_0f7a4 48 = .ok (.iload_n 0, 1) := by decide +kernel
theorem dJ6_bitCount_0f7a4_49 : decode cJ6_bitCount_0f7a4 49 = .ok (.bipush 63, 2) := by decide +kernel
theorem dJ6_bitCount_0f7a4_51 : decode cJ6_bitCount_0f7a4 51 = .ok (.iand, 1) := by decide +kernel
theorem dJ6_bitCount_0f7a4_52 : decode cJ6_bitCount_0f7a4 52 = .ok (.ireturn, 1) := by decide +kernel
theorem dJ9_max_f86c9_0 : decode cJ9_max_f86c9 0 = .ok (.lload_n 0, 1) := by decide +kernel
theorem dJ9_max_f86c9_1 : decode cJ9_max_f86c9 1 = .ok (.lload_n 2, 1) := by decide +kernel
theorem dJ9_max_f86c9_2 : decode cJ9_max_f86c9 2 = .ok (.lcmp, 1) := by decide +kernel
theorem dJ9_max_f86c9_3 : decode cJ9_max_f86c9 3 = .ok (.ifCond .lt 7, 3) := by decide +kernel
theorem dJ9_max_f86c9_6 : decode cJ9_max_f86c9 6 = .ok (.lload_n 0, 1) := by decide +kernel
theorem dJ9_max_f86c9_7 : decode cJ9_max_f86c9 7 = .ok (.goto 4, 3) := by decide +kernel
theorem dJ9_max_f86c9_10 : decode cJ9_max_f86c9 10 = .ok (.lload_n 2, 1) := by decide +kernel
theorem dJ9_max_f86c9_11 : decode cJ9_max_f86c9 11 = .ok (.lreturn, 1) := by decide +kernel
