theorem dX0_init_0 : decode cX0_init 0 = .ok (.aload_n 0, 1) := by decide +kernel
theorem dX0_init_1 : decode cX0_init 1 = .ok (.invokespecial 3, 3) := by decide +kernel
theorem dX0_init_4 : decode cX0_init 4 = .ok (.aload_n 0, 1) := by decide +kernel
theorem dX0_init_5 : decode cX0_init 5 = .ok (.bipush 6, 2) := by decide +kernel
theorem dX0_init_7 : decode cX0_init 7 = .ok (.bipush 6, 2) := by decide +kernel
theorem dX0_init_9 : decode cX0_init 9 = .ok (.multianewarray 11 2, 4) := by decide +kernel
theorem dX0_init_13 : decode cX0_init 13 = .ok (.putfield 13, 3) := by decide +kernel
theorem dX0_init_16 : decode cX0_init 16 = .ok (.aload_n 0, 1) := by decide +kernel
theorem dX0_init_17 : decode cX0_init 17 = .ok (.lconst 1, 1) := by decide +kernel
theorem dX0_init_18 : decode cX0_init 18 = .ok (.putfield 16, 3) := by decide +kernel
theorem dX0_init_21 : decode cX0_init 21 = .ok (.return_, 1) := by decide +kernel
set_option maxRecDepth 20000 in
theorem ggX1_init_X3_init : GoodIn wsX1_init wsX3_init := goodIn_r _ [13, 14, 2, 3, 15, 16, 17, 18, 19, 20, 21, 22, 23, 24, 25, 26, 27] (by decide +kernel) (by decide +kernel)
set_option maxRecDepth 20000 in
theorem gX1_init_X3_init_n11 : GoodIn wsX1_init (wsX3_init) := ggX1_init_X3_init
theorem dX1_init_0 : decode cX1_init 0 = .ok (.aload_n 0, 1) := by decide +kernel
theorem dX1_init_1 : decode cX1_init 1 = .ok (.invokespecial 3, 3) := by decide +kernel
theorem dX1_init_4 : decode cX1_init 4 = .ok (.aload_n 0, 1) := by decide +kernel
theorem dX1_init_5 : decode cX1_init 5 = .ok (.new 9, 3) := by decide +kernel
theorem dX1_init_8 : decode cX1_init 8 = .ok (.dup, 1) := by decide +kernel
theorem dX1_init_9 : decode cX1_init 9 = .ok (.invokespecial 11, 3) := by decide +kernel
theorem dX1_init_12 : decode cX1_init 12 = .ok (.putfield 12, 3) := by decide +kernel
theorem dX1_init_15 : decode cX1_init 15 = .ok (.aload_n 0, 1) := by decide +kernel
theorem dX1_init_16 : decode cX1_init 16 = .ok (.bipush 6, 2) := by decide +kernel
theorem dX1_init_18 : decode cX1_init 18 = .ok (.newarray .int, 2) := by decide +kernel
theorem dX1_init_20 : decode cX1_init 20 = .ok (.putfield 18, 3) := by decide +kernel
theorem dX1_init_23 : decode cX1_init 23 = .ok (.aload_n 0, 1) := by decide +kernel
theorem dX1_init_24 : decode cX1_init 24 = .ok (.bipush 6, 2) := by decide +kernel
theorem dX1_init_26 : decode cX1_init 26 = .ok (.newarray .int, 2) := by decide +kernel
theorem dX1_init_28 : decode cX1_init 28 = .ok (.putfield 22, 3) := by decide +kernel
theorem dX1_init_31 : decode cX1_init 31 = .ok (.aload_n 0, 1) := by decide +kernel
theorem dX1_init_32 : decode cX1_init 32 = .ok (.bipush 6, 2) := by decide +kernel
theorem dX1_init_34 : decode cX1_init 34 = .ok (.newarray .int, 2) := by decide +kernel
theorem dX1_init_36 : decode cX1_init 36 = .ok (.dup, 1) := by decide +kernel
theorem dX1_init_37 : decode cX1_init 37 = .ok (.iconst 0, 1) := by decide +kernel
theorem dX1_init_38 : decode cX1_init 38 = .ok (.iconst 0, 1) := by decide +kernel
theorem dX1_init_39 : decode cX1_init 39 = .ok (.iastore, 1) := by decide +kernel
theorem dX1_init_40 : decode cX1_init 40 = .ok (.dup, 1) := by decide +kernel
theorem dX1_init_41 : decode cX1_init 41 = .ok (.iconst 1, 1) := by decide +kernel
theorem dX1_init_42 : decode cX1_init 42 = .ok (.iconst 1, 1) := by decide +kernel
theorem dX1_init_43 : decode cX1_init 43 = .ok (.iastore, 1) := by decide +kernel
theorem dX1_init_44 : decode cX1_init 44 = .ok (.dup, 1) := by decide +kernel
theorem dX1_init_45 : decode cX1_init 45 = .ok (.iconst 2, 1) := by decide +kernel
theorem dX1_init_46 : decode cX1_init 46 = .ok (.iconst 2, 1) := by decide +kernel
theorem dX1_init_47 : decode cX1_init 47 = .ok (.iastore, 1) := by decide +kernel
theorem dX1_init_48 : decode cX1_init 48 = .ok (.dup, 1) := by decide +kernel
theorem dX1_init_49 : decode cX1_init 49 = .ok (.iconst 3, 1) := by decide +kernel
theorem dX1_init_50 : decode cX1_init 50 = .ok (.iconst 3, 1) := by decide +kernel
theorem dX1_init_51 : decode cX1_init 51 = .ok (.iastore, 1) := by decide +kernel
theorem dX1_init_52 : decode cX1_init 52 = .ok (.dup, 1) := by decide +kernel
theorem dX1_init_53 : decode cX1_init 53 = .ok (.iconst 4, 1) := by decide +kernel
theorem dX1_init_54 : decode cX1_init 54 = .ok (.iconst 4, 1) := by decide +kernel
theorem dX1_init_55 : decode cX1_init 55 = .ok (.iastore, 1) := by decide +kernel
theorem dX1_init_56 : decode cX1_init 56 = .ok (.dup, 1) := by decide +kernel
theorem dX1_init_57 : decode cX1_init 57 = .ok (.iconst 5, 1) := by decide +kernel
theorem dX1_init_58 : decode cX1_init 58 = .ok (.iconst 5, 1) := by decide +kernel
theorem dX1_init_59 : decode cX1_init 59 = .ok (.iastore, 1) := by decide +kernel
theorem dX1_init_60 : decode cX1_init 60 = .ok (.putfield 25, 3) := by decide +kernel
theorem dX1_init_63 : decode cX1_init 63 = .ok (.return_, 1) := by decide +kernel
theorem dX1_keepTurns_0 : decode cX1_keepTurns 0 = .ok (.aload_n 1, 1) := by decide +kernel
theorem dX1_keepTurns_1 : decode cX1_keepTurns 1 = .ok (.getfield 28, 3) := by decide +kernel
theorem dX1_keepTurns_4 : decode cX1_keepTurns 4 = .ok (.iconst 0, 1) := by decide +kernel
theorem dX1_keepTurns_5 : decode cX1_keepTurns 5 = .ok (.aload_n 0, 1) := by decide +kernel
theorem dX1_keepTurns_6 : decode cX1_keepTurns 6 = .ok (.getfield 18, 3) := by decide +kernel
theorem dX1_keepTurns_9 : decode cX1_keepTurns 9 = .ok (.iconst 0, 1) := by decide +kernel
theorem dX1_keepTurns_10 : decode cX1_keepTurns 10 = .ok (.bipush 6, 2) := by decide +kernel
theorem dX1_keepTurns_12 : decode cX1_keepTurns 12 = .ok (.invokestatic 33, 3) := by decide +kernel
theorem dX1_keepTurns_15 : decode cX1_keepTurns 15 = .ok (.return_, 1) := by decide +kernel
theorem dX1_putTurnsBack_0 : decode cX1_putTurnsBack 0 = .ok (.aload_n 0, 1) := by decide +kernel
theorem dX1_putTurnsBack_1 : decode cX1_putTurnsBack 1 = .ok (.getfield 18, 3) := by decide +kernel
theorem dX1_putTurnsBack_4 : decode cX1_putTurnsBack 4 = .ok (.iconst 0, 1) := by decide +kernel
theorem dX1_putTurnsBack_5 : decode cX1_putTurnsBack 5 = .ok (.aload_n 1, 1) := by decide +kernel
theorem dX1_putTurnsBack_6 : decode cX1_putTurnsBack 6 = .ok (.getfield 28, 3) := by decide +kernel
theorem dX1_putTurnsBack_9 : decode cX1_putTurnsBack 9 = .ok (.iconst 0, 1) := by decide +kernel
theorem dX1_putTurnsBack_10 : decode cX1_putTurnsBack 10 = .ok (.bipush 6, 2) := by decide +kernel
theorem dX1_putTurnsBack_12 : decode cX1_putTurnsBack 12 = .ok (.invokestatic 33, 3) := by decide +kernel
theorem dX1_putTurnsBack_15 : decode cX1_putTurnsBack 15 = .ok (.return_, 1) := by decide +kernel
set_option maxRecDepth 20000 in
theorem ggX1_drawBolt_X2_wholeCount : GoodIn wsX1_drawBolt wsX2_wholeCount := goodIn_r _ [16, 17, 18, 19, 20, 21, 22, 23, 24, 25, 75, 76, 77, 78, 79, 80, 81, 82] (by decide +kernel) (by decide +kernel)
set_option maxRecDepth 20000 in
theorem gX1_drawBolt_X2_wholeCount : GoodIn wsX1_drawBolt (wsV RX1 39 RX2 yX2_wholeCount wsX2_wholeCount) := goodIn_app (goodIn_of _ (by decide +kernel)) ggX1_drawBolt_X2_wholeCount
set_option maxRecDepth 20000 in
theorem ggX1_drawBolt_X2_sumOf : GoodIn wsX1_drawBolt wsX2_sumOf := goodIn_r _ [29, 17, 75, 76, 77, 78, 79, 80, 81, 82] (by decide +kernel) (by decide +kernel)
set_option maxRecDepth 20000 in
theorem gX1_drawBolt_X2_sumOf : GoodIn wsX1_drawBolt (wsV RX1 46 RX2 yX2_sumOf wsX2_sumOf) := goodIn_app (goodIn_of _ (by decide +kernel)) ggX1_drawBolt_X2_sumOf
set_option maxRecDepth 20000 in
theorem ggX1_drawBolt_X3_settleHolding : GoodIn wsX1_drawBolt wsX3_settleHolding := goodIn_r _ [34, 35, 36, 37, 38, 39, 40, 41, 15, 42, 17, 43, 44, 45, 33, 46, 47, 48, 49, 50, 51, 52, 53, 54, 55, 56, 57, 58, 59, 60, 61, 62, 63, 64, 65, 66, 67, 68, 69, 70, 71, 75, 76, 77, 78, 79, 80, 81, 82, 90, 91, 92, 93, 94, 95] (by decide +kernel) (by decide +kernel)
set_option maxRecDepth 20000 in
theorem gX1_drawBolt_X3_settleHolding : GoodIn wsX1_drawBolt (wsV RX1 50 RX3 yX3_settleHolding wsX3_settleHolding) := goodIn_app (goodIn_of _ (by decide +kernel)) ggX1_drawBolt_X3_settleHolding
set_option maxRecDepth 20000 in
theorem ggX1_drawBolt_X7_wholeFrom : GoodIn wsX1_drawBolt wsX7_wholeFrom := goodIn_r _ [74] (by decide +kernel) (by decide +kernel)
set_option maxRecDepth 20000 in
theorem gX1_drawBolt_X7_wholeFrom_n65 : GoodIn wsX1_drawBolt (wsX7_wholeFrom) := ggX1_drawBolt_X7_wholeFrom
theorem dX1_drawBolt_0 : decode cX1_drawBolt 0 = .ok (.aload_n 1, 1) := by decide +kernel
theorem dX1_drawBolt_1 : decode cX1_drawBolt 1 = .ok (.invokevirtual 39, 3) := by decide +kernel
theorem dX1_drawBolt_4 : decode cX1_drawBolt 4 = .ok (.iconst 1, 1) := by decide +kernel
theorem dX1_drawBolt_5 : decode cX1_drawBolt 5 = .ok (.if_icmp .ne 17, 3) := by decide +kernel
theorem dX1_drawBolt_8 : decode cX1_drawBolt 8 = .ok (.aload_n 1, 1) := by decide +kernel
theorem dX1_drawBolt_9 : decode cX1_drawBolt 9 = .ok (.aload_n 1, 1) := by decide +kernel
theorem dX1_drawBolt_10 : decode cX1_drawBolt 10 = .ok (.getfield 43, 3) := by decide +kernel
theorem dX1_drawBolt_13 : decode cX1_drawBolt 13 = .ok (.invokevirtual 46, 3) := by decide +kernel
theorem dX1_drawBolt_16 : decode cX1_drawBolt 16 = .ok (.iload_n 3, 1) := by decide +kernel
theorem dX1_drawBolt_17 : decode cX1_drawBolt 17 = .ok (.if_icmp .lt 5, 3) := by decide +kernel
theorem dX1_drawBolt_20 : decode cX1_drawBolt 20 = .ok (.iconst 0, 1) := by decide +kernel
theorem dX1_drawBolt_21 : decode cX1_drawBolt 21 = .ok (.ireturn, 1) := by decide +kernel
theorem dX1_drawBolt_22 : decode cX1_drawBolt 22 = .ok (.aload_n 0, 1) := by decide +kernel
theorem dX1_drawBolt_23 : decode cX1_drawBolt 23 = .ok (.getfield 12, 3) := by decide +kernel
theorem dX1_drawBolt_26 : decode cX1_drawBolt 26 = .ok (.aload_n 1, 1) := by decide +kernel
theorem dX1_drawBolt_27 : decode cX1_drawBolt 27 = .ok (.aload_n 1, 1) := by decide +kernel
theorem dX1_drawBolt_28 : decode cX1_drawBolt 28 = .ok (.getfield 43, 3) := by decide +kernel
theorem dX1_drawBolt_31 : decode cX1_drawBolt 31 = .ok (.iload_n 2, 1) := by decide +kernel
theorem dX1_drawBolt_32 : decode cX1_drawBolt 32 = .ok (.iload_n 3, 1) := by decide +kernel
theorem dX1_drawBolt_33 : decode cX1_drawBolt 33 = .ok (.invokevirtual 50, 3) := by decide +kernel
theorem dX1_drawBolt_36 : decode cX1_drawBolt 36 = .ok (.aload_n 1, 1) := by decide +kernel
theorem dX1_drawBolt_37 : decode cX1_drawBolt 37 = .ok (.getfield 54, 3) := by decide +kernel
theorem dX1_drawBolt_40 : decode cX1_drawBolt 40 = .ok (.iload_n 2, 1) := by decide +kernel
theorem dX1_drawBolt_41 : decode cX1_drawBolt 41 = .ok (.iaload, 1) := by decide +kernel
theorem dX1_drawBolt_42 : decode cX1_drawBolt 42 = .ok (.i2l, 1) := by decide +kernel
theorem dX1_drawBolt_43 : decode cX1_drawBolt 43 = .ok (.lstore 4, 2) := by decide +kernel
theorem dX1_drawBolt_45 : decode cX1_drawBolt 45 = .ok (.lload 4, 2) := by decide +kernel
theorem dX1_drawBolt_47 : decode cX1_drawBolt 47 = .ok (.aload_n 0, 1) := by decide +kernel
theorem dX1_drawBolt_48 : decode cX1_drawBolt 48 = .ok (.getfield 12, 3) := by decide +kernel
theorem dX1_drawBolt_51 : decode cX1_drawBolt 51 = .ok (.getfield 57, 3) := by decide +kernel
theorem dX1_drawBolt_54 : decode cX1_drawBolt 54 = .ok (.iload_n 2, 1) := by decide +kernel
theorem dX1_drawBolt_55 : decode cX1_drawBolt 55 = .ok (.laload, 1) := by decide +kernel
theorem dX1_drawBolt_56 : decode cX1_drawBolt 56 = .ok (.lmul, 1) := by decide +kernel
theorem dX1_drawBolt_57 : decode cX1_drawBolt 57 = .ok (.iload_n 3, 1) := by decide +kernel
theorem dX1_drawBolt_58 : decode cX1_drawBolt 58 = .ok (.i2l, 1) := by decide +kernel
theorem dX1_drawBolt_59 : decode cX1_drawBolt 59 = .ok (.aload_n 0, 1) := by decide +kernel
theorem dX1_drawBolt_60 : decode cX1_drawBolt 60 = .ok (.getfield 12, 3) := by decide +kernel
theorem dX1_drawBolt_63 : decode cX1_drawBolt 63 = .ok (.getfield 61, 3) := by decide +kernel
theorem dX1_drawBolt_66 : decode cX1_drawBolt 66 = .ok (.lmul, 1) := by decide +kernel
theorem dX1_drawBolt_67 : decode cX1_drawBolt 67 = .ok (.ladd, 1) := by decide +kernel
theorem dX1_drawBolt_68 : decode cX1_drawBolt 68 = .ok (.lstore 6, 2) := by decide +kernel
theorem dX1_drawBolt_70 : decode cX1_drawBolt 70 = .ok (.lconst 0, 1) := by decide +kernel
theorem dX1_drawBolt_71 : decode cX1_drawBolt 71 = .ok (.lload 6, 2) := by decide +kernel
theorem dX1_drawBolt_73 : decode cX1_drawBolt 73 = .ok (.lload 4, 2) := by decide +kernel
theorem dX1_drawBolt_75 : decode cX1_drawBolt 75 = .ok (.aload_n 0, 1) := by decide +kernel
theorem dX1_drawBolt_76 : decode cX1_drawBolt 76 = .ok (.getfield 12, 3) := by decide +kernel
theorem dX1_drawBolt_79 : decode cX1_drawBolt 79 = .ok (.getfield 61, 3) := by decide +kernel
theorem dX1_drawBolt_82 : decode cX1_drawBolt 82 = .ok (.lmul, 1) := by decide +kernel
theorem dX1_drawBolt_83 : decode cX1_drawBolt 83 = .ok (.invokestatic 65, 3) := by decide +kernel
theorem dX1_drawBolt_86 : decode cX1_drawBolt 86 = .ok (.aload_n 1, 1) := by decide +kernel
theorem dX1_drawBolt_87 : decode cX1_drawBolt 87 = .ok (.getfield 28, 3) := by decide +kernel
theorem dX1_drawBolt_90 : decode cX1_drawBolt 90 = .ok (.iload_n 2, 1) := by decide +kernel
theorem dX1_drawBolt_91 : decode cX1_drawBolt 91 = .ok (.iaload, 1) := by decide +kernel
theorem dX1_drawBolt_92 : decode cX1_drawBolt 92 = .ok (.i2l, 1) := by decide +kernel
theorem dX1_drawBolt_93 : decode cX1_drawBolt 93 = .ok (.lsub, 1) := by decide +kernel
theorem dX1_drawBolt_94 : decode cX1_drawBolt 94 = .ok (.invokestatic 69, 3) := by decide +kernel
theorem dX1_drawBolt_97 : decode cX1_drawBolt 97 = .ok (.lstore 8, 2) := by decide +kernel
theorem dX1_drawBolt_99 : decode cX1_drawBolt 99 = .ok (.aload_n 1, 1) := by decide +kernel
theorem dX1_drawBolt_100 : decode cX1_drawBolt 100 = .ok (.getfield 28, 3) := by decide +kernel
theorem dX1_drawBolt_103 : decode cX1_drawBolt 103 = .ok (.iload_n 2, 1) := by decide +kernel
theorem dX1_drawBolt_104 : decode cX1_drawBolt 104 = .ok (.iaload, 1) := by decide +kernel
theorem dX1_drawBolt_105 : decode cX1_drawBolt 105 = .ok (.i2l, 1) := by decide +kernel
theorem dX1_drawBolt_106 : decode cX1_drawBolt 106 = .ok (.lload 8, 2) := by decide +kernel
theorem dX1_drawBolt_108 : decode cX1_drawBolt 108 = .ok (.ladd, 1) := by decide +kernel
theorem dX1_drawBolt_109 : decode cX1_drawBolt 109 = .ok (.ldc2_w 74, 3) := by decide +kernel
theorem dX1_drawBolt_112 : decode cX1_drawBolt 112 = .ok (.lcmp, 1) := by decide +kernel
theorem dX1_drawBolt_113 : decode cX1_drawBolt 113 = .ok (.ifCond .le 5, 3) := by decide +kernel
theorem dX1_drawBolt_116 : decode cX1_drawBolt 116 = .ok (.iconst (-1), 1) := by decide +kernel
theorem dX1_drawBolt_117 : decode cX1_drawBolt 117 = .ok (.ireturn, 1) := by decide +kernel
theorem dX1_drawBolt_118 : decode cX1_drawBolt 118 = .ok (.aload_n 1, 1) := by decide +kernel
theorem dX1_drawBolt_119 : decode cX1_drawBolt 119 = .ok (.getfield 28, 3) := by decide +kernel
theorem dX1_drawBolt_122 : decode cX1_drawBolt 122 = .ok (.iload_n 2, 1) := by decide +kernel
theorem dX1_drawBolt_123 : decode cX1_drawBolt 123 = .ok (.dup2, 1) := by decide +kernel
theorem dX1_drawBolt_124 : decode cX1_drawBolt 124 = .ok (.iaload, 1) := by decide +kernel
theorem dX1_drawBolt_125 : decode cX1_drawBolt 125 = .ok (.lload 8, 2) := by decide +kernel
theorem dX1_drawBolt_127 : decode cX1_drawBolt 127 = .ok (.l2i, 1) := by decide +kernel
theorem dX1_drawBolt_128 : decode cX1_drawBolt 128 = .ok (.iadd, 1) := by decide +kernel
theorem dX1_drawBolt_129 : decode cX1_drawBolt 129 = .ok (.iastore, 1) := by decide +kernel
theorem dX1_drawBolt_130 : decode cX1_drawBolt 130 = .ok (.lload 8, 2) := by decide +kernel
theorem dX1_drawBolt_132 : decode cX1_drawBolt 132 = .ok (.l2i, 1) := by decide +kernel
theorem dX1_drawBolt_133 : decode cX1_drawBolt 133 = .ok (.ireturn, 1) := by decide +kernel
set_option maxRecDepth 20000 in
theorem ggX1_goRound_X2_isBroken : GoodIn wsX1_goRound wsX2_isBroken := goodIn_r _ [6, 7, 85, 86, 87, 88, 89, 90, 91, 92] (by decide +kernel) (by decide +kernel)
set_option maxRecDepth 20000 in
theorem gX1_goRound_X2_isBroken : GoodIn wsX1_goRound (wsV RX1 80 RX2 yX2_isBroken wsX2_isBroken) := goodIn_app (goodIn_of _ (by decide +kernel)) ggX1_goRound_X2_isBroken
set_option maxRecDepth 20000 in
theorem ggX1_goRound_X1_drawBolt : GoodIn wsX1_goRound wsX1_drawBolt := goodIn_r _ [12, 13, 14, 15, 16, 17, 18, 19, 20, 21, 22, 23, 24, 25, 26, 5, 27, 28, 7, 29, 30, 31, 32, 33, 34, 35, 36, 37, 38, 39, 40, 41, 42, 43, 44, 45, 46, 47, 48, 49, 50, 51, 52, 53, 54, 55, 56, 57, 58, 59, 60, 61, 62, 63, 64, 65, 66, 67, 68, 69, 70, 71, 72, 73, 74, 75, 76, 77, 78, 79, 80, 81, 82, 83, 84, 85, 86, 87, 88, 89, 90, 91, 92, 93, 94, 95, 96, 97, 98, 99, 100, 101, 102, 103, 104, 105] (by decide +kernel) (by decide +kernel)
set_option maxRecDepth 20000 in
theorem gX1_goRound_X1_drawBolt : GoodIn wsX1_goRound (wsV RX1 84 RX1 yX1_drawBolt wsX1_drawBolt) := goodIn_app (goodIn_of _ (by decide +kernel)) ggX1_goRound_X1_drawBolt
theorem dX1_goRound_0 : decode cX1_goRound 0 = .ok (.iconst 0, 1) := by decide +kernel
theorem dX1_goRound_1 : decode cX1_goRound 1 = .ok (.istore 4, 2) := by decide +kernel
theorem dX1_goRound_3 : decode cX1_goRound 3 = .ok (.iconst 0, 1) := by decide +kernel
theorem dX1_goRound_4 : decode cX1_goRound 4 = .ok (.istore 5, 2) := by decide +kernel
theorem dX1_goRound_6 : decode cX1_goRound 6 = .ok (.iload 5, 2) := by decide +kernel
theorem dX1_goRound_8 : decode cX1_goRound 8 = .ok (.aload_n 1, 1) := by decide +kernel
theorem dX1_goRound_9 : decode cX1_goRound 9 = .ok (.getfield 76, 3) := by decide +kernel
theorem dX1_goRound_12 : decode cX1_goRound 12 = .ok (.if_icmp .ge 52, 3) := by decide +kernel
theorem dX1_goRound_15 : decode cX1_goRound 15 = .ok (.aload_n 2, 1) := by decide +kernel
theorem dX1_goRound_16 : decode cX1_goRound 16 = .ok (.iload 5, 2) := by decide +kernel
theorem dX1_goRound_18 : decode cX1_goRound 18 = .ok (.iaload, 1) := by decide +kernel
theorem dX1_goRound_19 : decode cX1_goRound 19 = .ok (.istore 6, 2) := by decide +kernel
theorem dX1_goRound_21 : decode cX1_goRound 21 = .ok (.aload_n 1, 1) := by decide +kernel
theorem dX1_goRound_22 : decode cX1_goRound 22 = .ok (.iload 6, 2) := by decide +kernel
theorem dX1_goRound_24 : decode cX1_goRound 24 = .ok (.invokevirtual 80, 3) := by decide +kernel
theorem dX1_goRound_27 : decode cX1_goRound 27 = .ok (.ifCond .eq 6, 3) := by decide +kernel
theorem dX1_goRound_30 : decode cX1_goRound 30 = .ok (.goto 28, 3) := by decide +kernel
theorem dX1_goRound_33 : decode cX1_goRound 33 = .ok (.aload_n 0, 1) := by decide +kernel
theorem dX1_goRound_34 : decode cX1_goRound 34 = .ok (.aload_n 1, 1) := by decide +kernel
theorem dX1_goRound_35 : decode cX1_goRound 35 = .ok (.iload 6, 2) := by decide +kernel
theorem dX1_goRound_37 : decode cX1_goRound 37 = .ok (.iload_n 3, 1) := by decide +kernel
theorem dX1_goRound_38 : decode cX1_goRound 38 = .ok (.invokevirtual 84, 3) := by decide +kernel
theorem dX1_goRound_41 : decode cX1_goRound 41 = .ok (.istore 7, 2) := by decide +kernel
theorem dX1_goRound_43 : decode cX1_goRound 43 = .ok (.iload 7, 2) := by decide +kernel
theorem dX1_goRound_45 : decode cX1_goRound 45 = .ok (.iconst (-1), 1) := by decide +kernel
theorem dX1_goRound_46 : decode cX1_goRound 46 = .ok (.if_icmp .ne 5, 3) := by decide +kernel
theorem dX1_goRound_49 : decode cX1_goRound 49 = .ok (.iconst (-1), 1) := by decide +kernel
theorem dX1_goRound_50 : decode cX1_goRound 50 = .ok (.ireturn, 1) := by decide +kernel
theorem dX1_goRound_51 : decode cX1_goRound 51 = .ok (.iload 4, 2) := by decide +kernel
theorem dX1_goRound_53 : decode cX1_goRound 53 = .ok (.iload 7, 2) := by decide +kernel
theorem dX1_goRound_55 : decode cX1_goRound 55 = .ok (.iadd, 1) := by decide +kernel
theorem dX1_goRound_56 : decode cX1_goRound 56 = .ok (.istore 4, 2) := by decide +kernel
theorem dX1_goRound_58 : decode cX1_goRound 58 = .ok (.iinc 5 1, 3) := by decide +kernel
theorem dX1_goRound_61 : decode cX1_goRound 61 = .ok (.goto (-55), 3) := by decide +kernel
theorem dX1_goRound_64 : decode cX1_goRound 64 = .ok (.iload 4, 2) := by decide +kernel
theorem dX1_goRound_66 : decode cX1_goRound 66 = .ok (.ireturn, 1) := by decide +kernel
set_option maxRecDepth 20000 in
theorem ggX1_goRounds_X1_allHold : GoodIn wsX1_goRounds wsX1_allHold := goodIn_r _ [5, 6, 7, 8, 9, 10, 11, 12, 13, 14, 15, 16, 17, 18, 19, 20, 21, 22, 23, 24, 25, 26, 27, 28, 29, 30, 31, 32, 33, 34, 35, 36, 37, 38, 39, 40, 41, 42, 43, 44, 45, 46, 47, 48, 49, 50, 51, 52, 53, 54, 55, 56, 57, 58, 59, 60, 61, 62, 63, 64, 65, 66, 67, 68, 69, 70, 71, 104, 105, 106, 107, 108, 109, 110, 111, 112, 113, 114, 115, 116, 117, 118, 119, 120, 121, 122, 123, 124] (by decide +kernel) (by decide +kernel)
set_option maxRecDepth 20000 in
theorem gX1_goRounds_X1_allHold : GoodIn wsX1_goRounds (wsV RX1 88 RX1 yX1_allHold wsX1_allHold) := goodIn_app (goodIn_of _ (by decide +kernel)) ggX1_goRounds_X1_allHold
set_option maxRecDepth 20000 in
theorem ggX1_goRounds_X1_goRound : GoodIn wsX1_goRounds wsX1_goRound := goodIn_r _ [75, 8, 58, 59, 60, 26, 61, 62, 76, 77, 78, 4, 79, 7, 6, 80, 81, 9, 82, 83, 68, 69, 70, 84, 85, 86, 87, 88, 28, 89, 90, 91, 92, 93, 94, 95, 96, 97, 98, 99, 100, 16, 17, 13, 18, 19, 20, 21, 22, 23, 24, 25, 27, 29, 30, 31, 32, 33, 34, 35, 36, 37, 38, 39, 40, 41, 42, 43, 44, 45, 46, 47, 48, 49, 50, 51, 52, 53, 54, 55, 56, 57, 101, 102, 103, 111, 112, 113, 114, 115, 116, 117, 118, 104, 105, 106, 107, 108, 109, 110, 119, 120, 121, 122, 123, 124] (by decide +kernel) (by decide +kernel)
set_option maxRecDepth 20000 in
theorem gX1_goRounds_X1_goRound : GoodIn wsX1_goRounds (wsV RX1 92 RX1 yX1_goRound wsX1_goRound) := goodIn_app (goodIn_of _ (by decide +kernel)) ggX1_goRounds_X1_goRound
theorem dX1_goRounds_0 : decode cX1_goRounds 0 = .ok (.iconst 0, 1) := by decide +kernel
theorem dX1_goRounds_1 : decode cX1_goRounds 1 = .ok (.istore 5, 2) := by decide +kernel
theorem dX1_goRounds_3 : decode cX1_goRounds 3 = .ok (.iload 5, 2) := by decide +kernel
theorem dX1_goRounds_5 : decode cX1_goRounds 5 = .ok (.iload 4, 2) := by decide +kernel
theorem dX1_goRounds_7 : decode cX1_goRounds 7 = .ok (.if_icmp .ge 34, 3) := by decide +kernel
theorem dX1_goRounds_10 : decode cX1_goRounds 10 = .ok (.aload_n 0, 1) := by decide +kernel
theorem dX1_goRounds_11 : decode cX1_goRounds 11 = .ok (.aload_n 1, 1) := by decide +kernel
theorem dX1_goRounds_12 : decode cX1_goRounds 12 = .ok (.iload_n 3, 1) := by decide +kernel
theorem dX1_goRounds_13 : decode cX1_goRounds 13 = .ok (.invokevirtual 88, 3) := by decide +kernel
theorem dX1_goRounds_16 : decode cX1_goRounds 16 = .ok (.ifCond .eq 6, 3) := by decide +kernel
theorem dX1_goRounds_19 : decode cX1_goRounds 19 = .ok (.iload 5, 2) := by decide +kernel
theorem dX1_goRounds_21 : decode cX1_goRounds 21 = .ok (.ireturn, 1) := by decide +kernel
theorem dX1_goRounds_22 : decode cX1_goRounds 22 = .ok (.aload_n 0, 1) := by decide +kernel
theorem dX1_goRounds_23 : decode cX1_goRounds 23 = .ok (.aload_n 1, 1) := by decide +kernel
theorem dX1_goRounds_24 : decode cX1_goRounds 24 = .ok (.aload_n 2, 1) := by decide +kernel
theorem dX1_goRounds_25 : decode cX1_goRounds 25 = .ok (.iload_n 3, 1) := by decide +kernel
theorem dX1_goRounds_26 : decode cX1_goRounds 26 = .ok (.invokevirtual 92, 3) := by decide +kernel
theorem dX1_goRounds_29 : decode cX1_goRounds 29 = .ok (.iconst (-1), 1) := by decide +kernel
theorem dX1_goRounds_30 : decode cX1_goRounds 30 = .ok (.if_icmp .ne 5, 3) := by decide +kernel
theorem dX1_goRounds_33 : decode cX1_goRounds 33 = .ok (.iconst (-1), 1) := by decide +kernel
theorem dX1_goRounds_34 : decode cX1_goRounds 34 = .ok (.ireturn, 1) := by decide +kernel
theorem dX1_goRounds_35 : decode cX1_goRounds 35 = .ok (.iinc 5 1, 3) := by decide +kernel
theorem dX1_goRounds_38 : decode cX1_goRounds 38 = .ok (.goto (-35), 3) := by decide +kernel
theorem dX1_goRounds_41 : decode cX1_goRounds 41 = .ok (.aload_n 0, 1) := by decide +kernel
theorem dX1_goRounds_42 : decode cX1_goRounds 42 = .ok (.aload_n 1, 1) := by decide +kernel
theorem dX1_goRounds_43 : decode cX1_goRounds 43 = .ok (.iload_n 3, 1) := by decide +kernel
theorem dX1_goRounds_44 : decode cX1_goRounds 44 = .ok (.invokevirtual 88, 3) := by decide +kernel
theorem dX1_goRounds_47 : decode cX1_goRounds 47 = .ok (.ifCond .eq 8, 3) := by decide +kernel
theorem dX1_goRounds_50 : decode cX1_goRounds 50 = .ok (.iload 4, 2) := by decide +kernel
theorem dX1_goRounds_52 : decode cX1_goRounds 52 = .ok (.goto 4, 3) := by decide +kernel
theorem dX1_goRounds_55 : decode cX1_goRounds 55 = .ok (.iconst (-1), 1) := by decide +kernel
theorem dX1_goRounds_56 : decode cX1_goRounds 56 = .ok (.ireturn, 1) := by decide +kernel
set_option maxRecDepth 20000 in
theorem ggX1_allHold_X3_settle : GoodIn wsX1_allHold wsX3_settle := goodIn_r _ [9, 10, 11, 12, 8, 13, 14, 15, 16, 17, 18, 19, 20, 21, 22, 23, 24, 25, 26, 27, 28, 29, 30, 31, 32, 33, 34, 35, 36, 37, 38, 39, 40, 41, 42, 43, 44, 45, 46, 47, 48, 49, 50, 51, 52, 74, 75, 76, 77, 78, 79, 80, 81, 82, 83, 84, 85, 86, 87] (by decide +kernel) (by decide +kernel)
set_option maxRecDepth 20000 in
theorem gX1_allHold_X3_settle : GoodIn wsX1_allHold (wsV RX1 96 RX3 yX3_settle wsX3_settle) := goodIn_app (goodIn_of _ (by decide +kernel)) ggX1_allHold_X3_settle
set_option maxRecDepth 20000 in
theorem ggX1_allHold_X2_isBroken : GoodIn wsX1_allHold wsX2_isBroken := goodIn_r _ [56, 57, 74, 75, 76, 77, 78, 79, 80, 81] (by decide +kernel) (by decide +kernel)
set_option maxRecDepth 20000 in
theorem gX1_allHold_X2_isBroken : GoodIn wsX1_allHold (wsV RX1 80 RX2 yX2_isBroken wsX2_isBroken) := goodIn_app (goodIn_of _ (by decide +kernel)) ggX1_allHold_X2_isBroken
set_option maxRecDepth 20000 in
theorem ggX1_allHold_X3_pullUpper : GoodIn wsX1_allHold wsX3_pullUpper := goodIn_r _ [61, 29, 43, 30, 44, 62, 63, 64, 65, 66, 54, 55, 21, 56, 57, 74, 75, 76, 77, 78, 79, 80, 81, 82, 83, 84, 85, 86, 87] (by decide +kernel) (by decide +kernel)
set_option maxRecDepth 20000 in
theorem gX1_allHold_X3_pullUpper : GoodIn wsX1_allHold (wsV RX1 100 RX3 yX3_pullUpper wsX3_pullUpper) := goodIn_app (goodIn_of _ (by decide +kernel)) ggX1_allHold_X3_pullUpper
theorem dX1_allHold_0 : decode cX1_allHold 0 = .ok (.aload_n 0, 1) := by decide +kernel
theorem dX1_allHold_1 : decode cX1_allHold 1 = .ok (.getfield 12, 3) := by decide +kernel
theorem dX1_allHold_4 : decode cX1_allHold 4 = .ok (.aload_n 1, 1) := by decide +kernel
theorem dX1_allHold_5 : decode cX1_allHold 5 = .ok (.aload_n 1, 1) := by decide +kernel
theorem dX1_allHold_6 : decode cX1_allHold 6 = .ok (.getfield 43, 3) := by decide +kernel
theorem dX1_allHold_9 : decode cX1_allHold 9 = .ok (.invokevirtual 96, 3) := by decide +kernel
theorem dX1_allHold_12 : decode cX1_allHold 12 = .ok (.iconst 0, 1) := by decide +kernel
theorem dX1_allHold_13 : decode cX1_allHold 13 = .ok (.istore_n 3, 1) := by decide +kernel
theorem dX1_allHold_14 : decode cX1_allHold 14 = .ok (.iload_n 3, 1) := by decide +kernel
theorem dX1_allHold_15 : decode cX1_allHold 15 = .ok (.aload_n 1, 1) := by decide +kernel
theorem dX1_allHold_16 : decode cX1_allHold 16 = .ok (.getfield 76, 3) := by decide +kernel
theorem dX1_allHold_19 : decode cX1_allHold 19 = .ok (.if_icmp .ge 42, 3) := by decide +kernel
theorem dX1_allHold_22 : decode cX1_allHold 22 = .ok (.aload_n 1, 1) := by decide +kernel
theorem dX1_allHold_23 : decode cX1_allHold 23 = .ok (.iload_n 3, 1) := by decide +kernel
theorem dX1_allHold_24 : decode cX1_allHold 24 = .ok (.invokevirtual 80, 3) := by decide +kernel
theorem dX1_allHold_27 : decode cX1_allHold 27 = .ok (.ifCond .ne 28, 3) := by decide +kernel
theorem dX1_allHold_30 : decode cX1_allHold 30 = .ok (.aload_n 0, 1) := by decide +kernel
theorem dX1_allHold_31 : decode cX1_allHold 31 = .ok (.getfield 12, 3) := by decide +kernel
theorem dX1_allHold_34 : decode cX1_allHold 34 = .ok (.aload_n 1, 1) := by decide +kernel
theorem dX1_allHold_35 : decode cX1_allHold 35 = .ok (.iload_n 3, 1) := by decide +kernel
theorem dX1_allHold_36 : decode cX1_allHold 36 = .ok (.invokevirtual 100, 3) := by decide +kernel
theorem dX1_allHold_39 : decode cX1_allHold 39 = .ok (.aload_n 0, 1) := by decide +kernel
theorem dX1_allHold_40 : decode cX1_allHold 40 = .ok (.getfield 12, 3) := by decide +kernel
theorem dX1_allHold_43 : decode cX1_allHold 43 = .ok (.getfield 61, 3) := by decide +kernel
theorem dX1_allHold_46 : decode cX1_allHold 46 = .ok (.iload_n 2, 1) := by decide +kernel
theorem dX1_allHold_47 : decode cX1_allHold 47 = .ok (.i2l, 1) := by decide +kernel
theorem dX1_allHold_48 : decode cX1_allHold 48 = .ok (.lmul, 1) := by decide +kernel
theorem dX1_allHold_49 : decode cX1_allHold 49 = .ok (.lcmp, 1) := by decide +kernel
theorem dX1_allHold_50 : decode cX1_allHold 50 = .ok (.ifCond .ge 5, 3) := by decide +kernel
theorem dX1_allHold_53 : decode cX1_allHold 53 = .ok (.iconst 0, 1) := by decide +kernel
theorem dX1_allHold_54 : decode cX1_allHold 54 = .ok (.ireturn, 1) := by decide +kernel
theorem dX1_allHold_55 : decode cX1_allHold 55 = .ok (.iinc 3 1, 3) := by decide +kernel
theorem dX1_allHold_58 : decode cX1_allHold 58 = .ok (.goto (-44), 3) := by decide +kernel
theorem dX1_allHold_61 : decode cX1_allHold 61 = .ok (.iconst 1, 1) := by decide +kernel
theorem dX1_allHold_62 : decode cX1_allHold 62 = .ok (.ireturn, 1) := by decide +kernel
set_option maxRecDepth 20000 in
theorem ggX1_findBestRow_X1_keepTurns : GoodIn wsX1_findBestRow wsX1_keepTurns := goodIn_r _ [16, 1, 17, 4, 5, 6, 7, 135, 136, 137, 138, 139, 140, 141, 142, 143, 144, 145, 146, 147, 148, 149] (by decide +kernel) (by decide +kernel)
set_option maxRecDepth 20000 in
theorem gX1_findBestRow_X1_keepTurns : GoodIn wsX1_findBestRow (wsV RX1 104 RX1 yX1_keepTurns wsX1_keepTurns) := goodIn_app (goodIn_of _ (by decide +kernel)) ggX1_findBestRow_X1_keepTurns
set_option maxRecDepth 20000 in
theorem ggX1_findBestRow_X2_sumOf : GoodIn wsX1_findBestRow wsX2_sumOf := goodIn_r _ [22, 23, 135, 136, 137, 138, 139, 140, 141, 142] (by decide +kernel) (by decide +kernel)
set_option maxRecDepth 20000 in
theorem gX1_findBestRow_X2_sumOf : GoodIn wsX1_findBestRow (wsV RX1 46 RX2 yX2_sumOf wsX2_sumOf) := goodIn_app (goodIn_of _ (by decide +kernel)) ggX1_findBestRow_X2_sumOf
set_option maxRecDepth 20000 in
theorem ggX1_findBestRow_X1_goRounds : GoodIn wsX1_findBestRow wsX1_goRounds := goodIn_r _ [27, 28, 29, 30, 15, 31, 32, 33, 10, 34, 35, 36, 37, 38, 39, 40, 41, 42, 43, 44, 45, 46, 47, 48, 49, 50, 21, 51, 23, 52, 53, 54, 55, 56, 57, 58, 59, 60, 61, 62, 63, 64, 65, 66, 67, 68, 69, 70, 71, 72, 73, 74, 75, 76, 77, 78, 79, 80, 81, 82, 83, 84, 85, 86, 87, 88, 89, 90, 91, 92, 93, 94, 95, 96, 97, 98, 99, 100, 101, 102, 103, 104, 1, 105, 106, 107, 108, 109, 110, 111, 112, 113, 114, 115, 116, 117, 18, 19, 20, 22, 118, 119, 120, 121, 143, 144, 145, 146, 147, 148, 149, 135, 136, 137, 138, 139, 140, 141, 142, 150, 151, 152, 153, 154, 155] (by decide +kernel) (by decide +kernel)
set_option maxRecDepth 20000 in
theorem gX1_findBestRow_X1_goRounds : GoodIn wsX1_findBestRow (wsV RX1 111 RX1 yX1_goRounds wsX1_goRounds) := goodIn_app (goodIn_of _ (by decide +kernel)) ggX1_findBestRow_X1_goRounds
set_option maxRecDepth 20000 in
theorem ggX1_findBestRow_X1_putTurnsBack : GoodIn wsX1_findBestRow wsX1_putTurnsBack := goodIn_r _ [125, 17, 1, 4, 5, 6, 7, 143, 144, 145, 146, 147, 148, 149, 135, 136, 137, 138, 139, 140, 141, 142] (by decide +kernel) (by decide +kernel)
set_option maxRecDepth 20000 in
theorem gX1_findBestRow_X1_putTurnsBack : GoodIn wsX1_findBestRow (wsV RX1 115 RX1 yX1_putTurnsBack wsX1_putTurnsBack) := goodIn_app (goodIn_of _ (by decide +kernel)) ggX1_findBestRow_X1_putTurnsBack
set_option maxRecDepth 20000 in
theorem ggX1_findBestRow_X1_figuresOf : GoodIn wsX1_findBestRow wsX1_figuresOf := goodIn_r _ [128] (by decide +kernel) (by decide +kernel)
set_option maxRecDepth 20000 in
theorem gX1_findBestRow_X1_figuresOf : GoodIn wsX1_findBestRow (va_wsS RX1 121 yX1_figuresOf wsX1_figuresOf) := goodIn_app (goodIn_of _ (by decide +kernel)) ggX1_findBestRow_X1_figuresOf
set_option maxRecDepth 20000 in
theorem ggX1_findBestRow_X1_toNextOrder : GoodIn wsX1_findBestRow wsX1_toNextOrder := goodIn_r _ [131, 132, 133, 15, 134] (by decide +kernel) (by decide +kernel)
set_option maxRecDepth 20000 in
theorem gX1_findBestRow_X1_toNextOrder : GoodIn wsX1_findBestRow (va_wsS RX1 128 yX1_toNextOrder wsX1_toNextOrder) := goodIn_app (goodIn_of _ (by decide +kernel)) ggX1_findBestRow_X1_toNextOrder
theorem dX1_findBestRow_0 : decode cX1_findBestRow 0 = .ok (.aload_n 0, 1) := by decide +kernel
theorem dX1_findBestRow_1 : decode cX1_findBestRow 1 = .ok (.aload_n 1, 1) := by decide +kernel
theorem dX1_findBestRow_2 : decode cX1_findBestRow 2 = .ok (.invokevirtual 104, 3) := by decide +kernel
theorem dX1_findBestRow_5 : decode cX1_findBestRow 5 = .ok (.aload_n 1, 1) := by decide +kernel
theorem dX1_findBestRow_6 : decode cX1_findBestRow 6 = .ok (.aload_n 1, 1) := by decide +kernel
theorem dX1_findBestRow_7 : decode cX1_findBestRow 7 = .ok (.getfield 28, 3) := by decide +kernel
theorem dX1_findBestRow_10 : decode cX1_findBestRow 10 = .ok (.invokevirtual 46, 3) := by decide +kernel
theorem dX1_findBestRow_13 : decode cX1_findBestRow 13 = .ok (.istore_n 3, 1) := by decide +kernel
theorem dX1_findBestRow_14 : decode cX1_findBestRow 14 = .ok (.aload_n 0, 1) := by decide +kernel
theorem dX1_findBestRow_15 : decode cX1_findBestRow 15 = .ok (.getfield 25, 3) := by decide +kernel
theorem dX1_findBestRow_18 : decode cX1_findBestRow 18 = .ok (.iconst 0, 1) := by decide +kernel
theorem dX1_findBestRow_19 : decode cX1_findBestRow 19 = .ok (.aload_n 0, 1) := by decide +kernel
theorem dX1_findBestRow_20 : decode cX1_findBestRow 20 = .ok (.getfield 22, 3) := by decide +kernel
theorem dX1_findBestRow_23 : decode cX1_findBestRow 23 = .ok (.iconst 0, 1) := by decide +kernel
theorem dX1_findBestRow_24 : decode cX1_findBestRow 24 = .ok (.bipush 6, 2) := by decide +kernel
theorem dX1_findBestRow_26 : decode cX1_findBestRow 26 = .ok (.invokestatic 33, 3) := by decide +kernel
theorem dX1_findBestRow_29 : decode cX1_findBestRow 29 = .ok (.aload_n 0, 1) := by decide +kernel
theorem dX1_findBestRow_30 : decode cX1_findBestRow 30 = .ok (.iconst (-1), 1) := by decide +kernel
theorem dX1_findBestRow_31 : decode cX1_findBestRow 31 = .ok (.putfield 108, 3) := by decide +kernel
theorem dX1_findBestRow_34 : decode cX1_findBestRow 34 = .ok (.iconst 1, 1) := by decide +kernel
theorem dX1_findBestRow_35 : decode cX1_findBestRow 35 = .ok (.istore 4, 2) := by decide +kernel
theorem dX1_findBestRow_37 : decode cX1_findBestRow 37 = .ok (.iconst 0, 1) := by decide +kernel
theorem dX1_findBestRow_38 : decode cX1_findBestRow 38 = .ok (.istore 5, 2) := by decide +kernel
theorem dX1_findBestRow_40 : decode cX1_findBestRow 40 = .ok (.iload 5, 2) := by decide +kernel
theorem dX1_findBestRow_42 : decode cX1_findBestRow 42 = .ok (.sipush 720, 3) := by decide +kernel
theorem dX1_findBestRow_45 : decode cX1_findBestRow 45 = .ok (.if_icmp .ge 141, 3) := by decide +kernel
theorem dX1_findBestRow_48 : decode cX1_findBestRow 48 = .ok (.iload 4, 2) := by decide +kernel
theorem dX1_findBestRow_50 : decode cX1_findBestRow 50 = .ok (.ifCond .eq 136, 3) := by decide +kernel
theorem dX1_findBestRow_53 : decode cX1_findBestRow 53 = .ok (.aload_n 0, 1) := by decide +kernel
theorem dX1_findBestRow_54 : decode cX1_findBestRow 54 = .ok (.aload_n 1, 1) := by decide +kernel
theorem dX1_findBestRow_55 : decode cX1_findBestRow 55 = .ok (.aload_n 0, 1) := by decide +kernel
theorem dX1_findBestRow_56 : decode cX1_findBestRow 56 = .ok (.getfield 22, 3) := by decide +kernel
theorem dX1_findBestRow_59 : decode cX1_findBestRow 59 = .ok (.iload_n 2, 1) := by decide +kernel
theorem dX1_findBestRow_60 : decode cX1_findBestRow 60 = .ok (.aload_n 0, 1) := by decide +kernel
theorem dX1_findBestRow_61 : decode cX1_findBestRow 61 = .ok (.getfield 108, 3) := by decide +kernel
theorem dX1_findBestRow_64 : decode cX1_findBestRow 64 = .ok (.iconst (-1), 1) := by decide +kernel
theorem dX1_findBestRow_65 : decode cX1_findBestRow 65 = .ok (.if_icmp .ne 8, 3) := by decide +kernel
theorem dX1_findBestRow_68 : decode cX1_findBestRow 68 = .ok (.bipush 20, 2) := by decide +kernel
theorem dX1_findBestRow_70 : decode cX1_findBestRow 70 = .ok (.goto 7, 3) := by decide +kernel
theorem dX1_findBestRow_73 : decode cX1_findBestRow 73 = .ok (.aload_n 0, 1) := by decide +kernel
theorem dX1_findBestRow_74 : decode cX1_findBestRow 74 = .ok (.getfield 108, 3) := by decide +kernel
theorem dX1_findBestRow_77 : decode cX1_findBestRow 77 = .ok (.invokevirtual 111, 3) := by decide +kernel
theorem dX1_findBestRow_80 : decode cX1_findBestRow 80 = .ok (.istore 6, 2) := by decide +kernel
theorem dX1_findBestRow_82 : decode cX1_findBestRow 82 = .ok (.aload_n 1, 1) := by decide +kernel
theorem dX1_findBestRow_83 : decode cX1_findBestRow 83 = .ok (.aload_n 1, 1) := by decide +kernel
theorem dX1_findBestRow_84 : decode cX1_findBestRow 84 = .ok (.getfield 28, 3) := by decide +kernel
theorem dX1_findBestRow_87 : decode cX1_findBestRow 87 = .ok (.invokevirtual 46, 3) := by decide +kernel
theorem dX1_findBestRow_90 : decode cX1_findBestRow 90 = .ok (.iload_n 3, 1) := by decide +kernel
theorem dX1_findBestRow_91 : decode cX1_findBestRow 91 = .ok (.isub, 1) := by decide +kernel
theorem dX1_findBestRow_92 : decode cX1_findBestRow 92 = .ok (.istore 7, 2) := by decide +kernel
theorem dX1_findBestRow_94 : decode cX1_findBestRow 94 = .ok (.aload_n 0, 1) := by decide +kernel
theorem dX1_findBestRow_95 : decode cX1_findBestRow 95 = .ok (.aload_n 1, 1) := by decide +kernel
theorem dX1_findBestRow_96 : decode cX1_findBestRow 96 = .ok (.invokevirtual 115, 3) := by decide +kernel
theorem dX1_findBestRow_99 : decode cX1_findBestRow 99 = .ok (.iload 6, 2) := by decide +kernel
theorem dX1_findBestRow_101 : decode cX1_findBestRow 101 = .ok (.iconst (-1), 1) := by decide +kernel
theorem dX1_findBestRow_102 : decode cX1_findBestRow 102 = .ok (.if_icmp .eq 65, 3) := by decide +kernel
theorem dX1_findBestRow_105 : decode cX1_findBestRow 105 = .ok (.aload_n 0, 1) := by decide +kernel
theorem dX1_findBestRow_106 : decode cX1_findBestRow 106 = .ok (.getfield 108, 3) := by decide +kernel
theorem dX1_findBestRow_109 : decode cX1_findBestRow 109 = .ok (.iconst (-1), 1) := by decide +kernel
theorem dX1_findBestRow_110 : decode cX1_findBestRow 110 = .ok (.if_icmp .eq 30, 3) := by decide +kernel
theorem dX1_findBestRow_113 : decode cX1_findBestRow 113 = .ok (.iload 6, 2) := by decide +kernel
theorem dX1_findBestRow_115 : decode cX1_findBestRow 115 = .ok (.aload_n 0, 1) := by decide +kernel
theorem dX1_findBestRow_116 : decode cX1_findBestRow 116 = .ok (.getfield 108, 3) := by decide +kernel
theorem dX1_findBestRow_119 : decode cX1_findBestRow 119 = .ok (.if_icmp .lt 21, 3) := by decide +kernel
theorem dX1_findBestRow_122 : decode cX1_findBestRow 122 = .ok (.iload 6, 2) := by decide +kernel
theorem dX1_findBestRow_124 : decode cX1_findBestRow 124 = .ok (.aload_n 0, 1) := by decide +kernel
theorem dX1_findBestRow_125 : decode cX1_findBestRow 125 = .ok (.getfield 108, 3) := by decide +kernel
theorem dX1_findBestRow_128 : decode cX1_findBestRow 128 = .ok (.if_icmp .ne 39, 3) := by decide +kernel
theorem dX1_findBestRow_131 : decode cX1_findBestRow 131 = .ok (.iload 7, 2) := by decide +kernel
theorem dX1_findBestRow_133 : decode cX1_findBestRow 133 = .ok (.aload_n 0, 1) := by decide +kernel
theorem dX1_findBestRow_134 : decode cX1_findBestRow 134 = .ok (.getfield 118, 3) := by decide +kernel
theorem dX1_findBestRow_137 : decode cX1_findBestRow 137 = .ok (.if_icmp .ge 30, 3) := by decide +kernel
theorem dX1_findBestRow_140 : decode cX1_findBestRow 140 = .ok (.aload_n 0, 1) := by decide +kernel
theorem dX1_findBestRow_141 : decode cX1_findBestRow 141 = .ok (.iload 6, 2) := by decide +kernel
theorem dX1_findBestRow_143 : decode cX1_findBestRow 143 = .ok (.putfield 108, 3) := by decide +kernel
theorem dX1_findBestRow_146 : decode cX1_findBestRow 146 = .ok (.aload_n 0, 1) := by decide +kernel
theorem dX1_findBestRow_147 : decode cX1_findBestRow 147 = .ok (.iload 7, 2) := by decide +kernel
theorem dX1_findBestRow_149 : decode cX1_findBestRow 149 = .ok (.putfield 118, 3) := by decide +kernel
theorem dX1_findBestRow_152 : decode cX1_findBestRow 152 = .ok (.aload_n 0, 1) := by decide +kernel
theorem dX1_findBestRow_153 : decode cX1_findBestRow 153 = .ok (.aload_n 0, 1) := by decide +kernel
theorem dX1_findBestRow_154 : decode cX1_findBestRow 154 = .ok (.getfield 22, 3) := by decide +kernel
theorem dX1_findBestRow_157 : decode cX1_findBestRow 157 = .ok (.aload_n 1, 1) := by decide +kernel
theorem dX1_findBestRow_158 : decode cX1_findBestRow 158 = .ok (.getfield 76, 3) := by decide +kernel
theorem dX1_findBestRow_161 : decode cX1_findBestRow 161 = .ok (.invokestatic 121, 3) := by decide +kernel
theorem dX1_findBestRow_164 : decode cX1_findBestRow 164 = .ok (.putfield 125, 3) := by decide +kernel
theorem dX1_findBestRow_167 : decode cX1_findBestRow 167 = .ok (.aload_n 0, 1) := by decide +kernel
theorem dX1_findBestRow_168 : decode cX1_findBestRow 168 = .ok (.getfield 22, 3) := by decide +kernel
theorem dX1_findBestRow_171 : decode cX1_findBestRow 171 = .ok (.aload_n 1, 1) := by decide +kernel
theorem dX1_findBestRow_172 : decode cX1_findBestRow 172 = .ok (.getfield 76, 3) := by decide +kernel
theorem dX1_findBestRow_175 : decode cX1_findBestRow 175 = .ok (.invokestatic 128, 3) := by decide +kernel
theorem dX1_findBestRow_178 : decode cX1_findBestRow 178 = .ok (.istore 4, 2) := by decide +kernel
theorem dX1_findBestRow_180 : decode cX1_findBestRow 180 = .ok (.iinc 5 1, 3) := by decide +kernel
theorem dX1_findBestRow_183 : decode cX1_findBestRow 183 = .ok (.goto (-143), 3) := by decide +kernel
theorem dX1_findBestRow_186 : decode cX1_findBestRow 186 = .ok (.return_, 1) := by decide +kernel
theorem dX1_figuresOf_0 : decode cX1_figuresOf 0 = .ok (.iconst 0, 1) := by decide +kernel
theorem dX1_figuresOf_1 : decode cX1_figuresOf 1 = .ok (.istore_n 2, 1) := by decide +kernel
theorem dX1_figuresOf_2 : decode cX1_figuresOf 2 = .ok (.iconst 0, 1) := by decide +kernel
theorem dX1_figuresOf_3 : decode cX1_figuresOf 3 = .ok (.istore_n 3, 1) := by decide +kernel
theorem dX1_figuresOf_4 : decode cX1_figuresOf 4 = .ok (.iload_n 3, 1) := by decide +kernel
theorem dX1_figuresOf_5 : decode cX1_figuresOf 5 = .ok (.iload_n 1, 1) := by decide +kernel
theorem dX1_figuresOf_6 : decode cX1_figuresOf 6 = .ok (.if_icmp .ge 18, 3) := by decide +kernel
theorem dX1_figuresOf_9 : decode cX1_figuresOf 9 = .ok (.bipush 10, 2) := by decide +kernel
theorem dX1_figuresOf_11 : decode cX1_figuresOf 11 = .ok (.iload_n 2, 1) := by decide +kernel
theorem dX1_figuresOf_12 : decode cX1_figuresOf 12 = .ok (.imul, 1) := by decide +kernel
theorem dX1_figuresOf_13 : decode cX1_figuresOf 13 = .ok (.aload_n 0, 1) := by decide +kernel
theorem dX1_figuresOf_14 : decode cX1_figuresOf 14 = .ok (.iload_n 3, 1) := by decide +kernel
theorem dX1_figuresOf_15 : decode cX1_figuresOf 15 = .ok (.iaload, 1) := by decide +kernel
theorem dX1_figuresOf_16 : decode cX1_figuresOf 16 = .ok (.iadd, 1) := by decide +kernel
theorem dX1_figuresOf_17 : decode cX1_figuresOf 17 = .ok (.istore_n 2, 1) := by decide +kernel
theorem dX1_figuresOf_18 : decode cX1_figuresOf 18 = .ok (.iinc 3 1, 3) := by decide +kernel
theorem dX1_figuresOf_21 : decode cX1_figuresOf 21 = .ok (.goto (-17), 3) := by decide +kernel
theorem dX1_figuresOf_24 : decode cX1_figuresOf 24 = .ok (.iload_n 2, 1) := by decide +kernel
theorem dX1_figuresOf_25 : decode cX1_figuresOf 25 = .ok (.ireturn, 1) := by decide +kernel
set_option maxRecDepth 20000 in
theorem ggX1_toNextOrder_X1_swap : GoodIn wsX1_toNextOrder wsX1_swap := goodIn_r _ [4] (by decide +kernel) (by decide +kernel)
set_option maxRecDepth 20000 in
theorem gX1_toNextOrder_X1_swap : GoodIn wsX1_toNextOrder (va_wsS RX1 132 yX1_swap wsX1_swap) := goodIn_app (goodIn_of _ (by decide +kernel)) ggX1_toNextOrder_X1_swap
theorem dX1_toNextOrder_0 : decode cX1_toNextOrder 0 = .ok (.iload_n 1, 1) := by decide +kernel
theorem dX1_toNextOrder_1 : decode cX1_toNextOrder 1 = .ok (.iconst 2, 1) := by decide +kernel
theorem dX1_toNextOrder_2 : decode cX1_toNextOrder 2 = .ok (.isub, 1) := by decide +kernel
theorem dX1_toNextOrder_3 : decode cX1_toNextOrder 3 = .ok (.istore_n 2, 1) := by decide +kernel
theorem dX1_toNextOrder_4 : decode cX1_toNextOrder 4 = .ok (.iload_n 2, 1) := by decide +kernel
theorem dX1_toNextOrder_5 : decode cX1_toNextOrder 5 = .ok (.ifCond .lt 20, 3) := by decide +kernel
theorem dX1_toNextOrder_8 : decode cX1_toNextOrder 8 = .ok (.aload_n 0, 1) := by decide +kernel
theorem dX1_toNextOrder_9 : decode cX1_toNextOrder 9 = .ok (.iload_n 2, 1) := by decide +kernel
theorem dX1_toNextOrder_10 : decode cX1_toNextOrder 10 = .ok (.iaload, 1) := by decide +kernel
theorem dX1_toNextOrder_11 : decode cX1_toNextOrder 11 = .ok (.aload_n 0, 1) := by decide +kernel
theorem dX1_toNextOrder_12 : decode cX1_toNextOrder 12 = .ok (.iload_n 2, 1) := by decide +kernel
theorem dX1_toNextOrder_13 : decode cX1_toNextOrder 13 = .ok (.iconst 1, 1) := by decide +kernel
theorem dX1_toNextOrder_14 : decode cX1_toNextOrder 14 = .ok (.iadd, 1) := by decide +kernel
theorem dX1_toNextOrder_15 : decode cX1_toNextOrder 15 = .ok (.iaload, 1) := by decide +kernel
theorem dX1_toNextOrder_16 : decode cX1_toNextOrder 16 = .ok (.if_icmp .le 9, 3) := by decide +kernel
theorem dX1_toNextOrder_19 : decode cX1_toNextOrder 19 = .ok (.iinc 2 (-1), 3) := by decide +kernel
theorem dX1_toNextOrder_22 : decode cX1_toNextOrder 22 = .ok (.goto (-18), 3) := by decide +kernel
theorem dX1_toNextOrder_25 : decode cX1_toNextOrder 25 = .ok (.iload_n 2, 1) := by decide +kernel
theorem dX1_toNextOrder_26 : decode cX1_toNextOrder 26 = .ok (.ifCond .ge 5, 3) := by decide +kernel
theorem dX1_toNextOrder_29 : decode cX1_toNextOrder 29 = .ok (.iconst 0, 1) := by decide +kernel
theorem dX1_toNextOrder_30 : decode cX1_toNextOrder 30 = .ok (.ireturn, 1) := by decide +kernel
theorem dX1_toNextOrder_31 : decode cX1_toNextOrder 31 = .ok (.iload_n 1, 1) := by decide +kernel
theorem dX1_toNextOrder_32 : decode cX1_toNextOrder 32 = .ok (.iconst 1, 1) := by decide +kernel
theorem dX1_toNextOrder_33 : decode cX1_toNextOrder 33 = .ok (.isub, 1) := by decide +kernel
theorem dX1_toNextOrder_34 : decode cX1_toNextOrder 34 = .ok (.istore_n 3, 1) := by decide +kernel
theorem dX1_toNextOrder_35 : decode cX1_toNextOrder 35 = .ok (.iload_n 3, 1) := by decide +kernel
theorem dX1_toNextOrder_36 : decode cX1_toNextOrder 36 = .ok (.iload_n 2, 1) := by decide +kernel
theorem dX1_toNextOrder_37 : decode cX1_toNextOrder 37 = .ok (.if_icmp .le 18, 3) := by decide +kernel
theorem dX1_toNextOrder_40 : decode cX1_toNextOrder 40 = .ok (.aload_n 0, 1) := by decide +kernel
theorem dX1_toNextOrder_41 : decode cX1_toNextOrder 41 = .ok (.iload_n 3, 1) := by decide +kernel
theorem dX1_toNextOrder_42 : decode cX1_toNextOrder 42 = .ok (.iaload, 1) := by decide +kernel
theorem dX1_toNextOrder_43 : decode cX1_toNextOrder 43 = .ok (.aload_n 0, 1) := by decide +kernel
theorem dX1_toNextOrder_44 : decode cX1_toNextOrder 44 = .ok (.iload_n 2, 1) := by decide +kernel
theorem dX1_toNextOrder_45 : decode cX1_toNextOrder 45 = .ok (.iaload, 1) := by decide +kernel
theorem dX1_toNextOrder_46 : decode cX1_toNextOrder 46 = .ok (.if_icmp .ge 9, 3) := by decide +kernel
theorem dX1_toNextOrder_49 : decode cX1_toNextOrder 49 = .ok (.iinc 3 (-1), 3) := by decide +kernel
theorem dX1_toNextOrder_52 : decode cX1_toNextOrder 52 = .ok (.goto (-17), 3) := by decide +kernel
theorem dX1_toNextOrder_55 : decode cX1_toNextOrder 55 = .ok (.aload_n 0, 1) := by decide +kernel
theorem dX1_toNextOrder_56 : decode cX1_toNextOrder 56 = .ok (.iload_n 2, 1) := by decide +kernel
theorem dX1_toNextOrder_57 : decode cX1_toNextOrder 57 = .ok (.iload_n 3, 1) := by decide +kernel
theorem dX1_toNextOrder_58 : decode cX1_toNextOrder 58 = .ok (.invokestatic 132, 3) := by decide +kernel
theorem dX1_toNextOrder_61 : decode cX1_toNextOrder 61 = .ok (.iload_n 2, 1) := by decide +kernel
theorem dX1_toNextOrder_62 : decode cX1_toNextOrder 62 = .ok (.iconst 1, 1) := by decide +kernel
theorem dX1_toNextOrder_63 : decode cX1_toNextOrder 63 = .ok (.iadd, 1) := by decide +kernel
theorem dX1_toNextOrder_64 : decode cX1_toNextOrder 64 = .ok (.istore 4, 2) := by decide +kernel
theorem dX1_toNextOrder_66 : decode cX1_toNextOrder 66 = .ok (.iload_n 1, 1) := by decide +kernel
theorem dX1_toNextOrder_67 : decode cX1_toNextOrder 67 = .ok (.iconst 1, 1) := by decide +kernel
theorem dX1_toNextOrder_68 : decode cX1_toNextOrder 68 = .ok (.isub, 1) := by decide +kernel
theorem dX1_toNextOrder_69 : decode cX1_toNextOrder 69 = .ok (.istore 5, 2) := by decide +kernel
theorem dX1_toNextOrder_71 : decode cX1_toNextOrder 71 = .ok (.iload 4, 2) := by decide +kernel
theorem dX1_toNextOrder_73 : decode cX1_toNextOrder 73 = .ok (.iload 5, 2) := by decide +kernel
theorem dX1_toNextOrder_75 : decode cX1_toNextOrder 75 = .ok (.if_icmp .ge 20, 3) := by decide +kernel
theorem dX1_toNextOrder_78 : decode cX1_toNextOrder 78 = .ok (.aload_n 0, 1) := by decide +kernel
theorem dX1_toNextOrder_79 : decode cX1_toNextOrder 79 = .ok (.iload 4, 2) := by decide +kernel
theorem dX1_toNextOrder_81 : decode cX1_toNextOrder 81 = .ok (.iload 5, 2) := by decide +kernel
theorem dX1_toNextOrder_83 : decode cX1_toNextOrder 83 = .ok (.invokestatic 132, 3) := by decide +kernel
theorem dX1_toNextOrder_86 : decode cX1_toNextOrder 86 = .ok (.iinc 4 1, 3) := by decide +kernel
theorem dX1_toNextOrder_89 : decode cX1_toNextOrder 89 = .ok (.iinc 5 (-1), 3) := by decide +kernel
theorem dX1_toNextOrder_92 : decode cX1_toNextOrder 92 = .ok (.goto (-21), 3) := by decide +kernel
theorem dX1_toNextOrder_95 : decode cX1_toNextOrder 95 = .ok (.iconst 1, 1) := by decide +kernel
theorem dX1_toNextOrder_96 : decode cX1_toNextOrder 96 = .ok (.ireturn, 1) := by decide +kernel
theorem dX1_swap_0 : decode cX1_swap 0 = .ok (.aload_n 0, 1) := by decide +kernel
theorem dX1_swap_1 : decode cX1_swap 1 = .ok (.iload_n 1, 1) := by decide +kernel
theorem dX1_swap_2 : decode cX1_swap 2 = .ok (.iaload, 1) := by decide +kernel
theorem dX1_swap_3 : decode cX1_swap 3 = .ok (.istore_n 3, 1) := by decide +kernel
theorem dX1_swap_4 : decode cX1_swap 4 = .ok (.aload_n 0, 1) := by decide +kernel
theorem dX1_swap_5 : decode cX1_swap 5 = .ok (.iload_n 1, 1) := by decide +kernel
theorem dX1_swap_6 : decode cX1_swap 6 = .ok (.aload_n 0, 1) := by decide +kernel
theorem dX1_swap_7 : decode cX1_swap 7 = .ok (.iload_n 2, 1) := by decide +kernel
theorem dX1_swap_8 : decode cX1_swap 8 = .ok (.iaload, 1) := by decide +kernel
theorem dX1_swap_9 : decode cX1_swap 9 = .ok (.iastore, 1) := by decide +kernel
theorem dX1_swap_10 : decode cX1_swap 10 = .ok (.aload_n 0, 1) := by decide +kernel
theorem dX1_swap_11 : decode cX1_swap 11 = .ok (.iload_n 2, 1) := by decide +kernel
theorem dX1_swap_12 : decode cX1_swap 12 = .ok (.iload_n 3, 1) := by decide +kernel
theorem dX1_swap_13 : decode cX1_swap 13 = .ok (.iastore, 1) := by decide +kernel
theorem dX1_swap_14 : decode cX1_swap 14 = .ok (.return_, 1) := by decide +kernel
set_option maxRecDepth 20000 in
theorem ggX1_drawEvenFromNothing_X2_isBroken : GoodIn wsX1_drawEvenFromNothing wsX2_isBroken := goodIn_r _ [8, 9, 90, 91, 92, 93, 94, 95, 96, 97] (by decide +kernel) (by decide +kernel)
set_option maxRecDepth 20000 in
theorem gX1_drawEvenFromNothing_X2_isBroken : GoodIn wsX1_drawEvenFromNothing (wsV RX1 80 RX2 yX2_isBroken wsX2_isBroken) := goodIn_app (goodIn_of _ (by decide +kernel)) ggX1_drawEvenFromNothing_X2_isBroken
set_option maxRecDepth 20000 in
theorem ggX1_drawEvenFromNothing_X1_goRound : GoodIn wsX1_drawEvenFromNothing wsX1_goRound := goodIn_r _ [14, 1, 4, 5, 6, 7, 8, 9, 15, 16, 17, 13, 18, 19, 20, 21, 22, 23, 2, 24, 25, 26, 27, 28, 29, 30, 31, 32, 33, 34, 35, 36, 37, 38, 39, 40, 41, 42, 43, 44, 45, 46, 47, 48, 49, 50, 51, 52, 53, 54, 55, 56, 57, 58, 59, 60, 61, 62, 63, 64, 65, 66, 67, 68, 69, 70, 71, 72, 73, 74, 75, 76, 77, 78, 79, 80, 81, 82, 83, 84, 85, 86, 87, 88, 89, 90, 91, 92, 93, 94, 95, 96, 97, 98, 99, 100, 101, 102, 103, 104, 105, 106, 107, 108, 109, 110] (by decide +kernel) (by decide +kernel)
set_option maxRecDepth 20000 in
theorem gX1_drawEvenFromNothing_X1_goRound : GoodIn wsX1_drawEvenFromNothing (wsV RX1 92 RX1 yX1_goRound wsX1_goRound) := goodIn_app (goodIn_of _ (by decide +kernel)) ggX1_drawEvenFromNothing_X1_goRound
theorem dX1_drawEvenFromNothing_0 : decode cX1_drawEvenFromNothing 0 = .ok (.iconst 0, 1) := by decide +kernel
theorem dX1_drawEvenFromNothing_1 : decode cX1_drawEvenFromNothing 1 = .ok (.istore_n 3, 1) := by decide +kernel
theorem dX1_drawEvenFromNothing_2 : decode cX1_drawEvenFromNothing 2 = .ok (.iload_n 3, 1) := by decide +kernel
theorem dX1_drawEvenFromNothing_3 : decode cX1_drawEvenFromNothing 3 = .ok (.aload_n 1, 1) := by decide +kernel
theorem dX1_drawEvenFromNothing_4 : decode cX1_drawEvenFromNothing 4 = .ok (.getfield 76, 3) := by decide +kernel
theorem dX1_drawEvenFromNothing_7 : decode cX1_drawEvenFromNothing 7 = .ok (.if_icmp .ge 24, 3) := by decide +kernel
theorem dX1_drawEvenFromNothing_10 : decode cX1_drawEvenFromNothing 10 = .ok (.aload_n 1, 1) := by decide +kernel
theorem dX1_drawEvenFromNothing_11 : decode cX1_drawEvenFromNothing 11 = .ok (.iload_n 3, 1) := by decide +kernel
theorem dX1_drawEvenFromNothing_12 : decode cX1_drawEvenFromNothing 12 = .ok (.invokevirtual 80, 3) := by decide +kernel
theorem dX1_drawEvenFromNothing_15 : decode cX1_drawEvenFromNothing 15 = .ok (.ifCond .ne 10, 3) := by decide +kernel
theorem dX1_drawEvenFromNothing_18 : decode cX1_drawEvenFromNothing 18 = .ok (.aload_n 1, 1) := by decide +kernel
theorem dX1_drawEvenFromNothing_19 : decode cX1_drawEvenFromNothing 19 = .ok (.getfield 28, 3) := by decide +kernel
theorem dX1_drawEvenFromNothing_22 : decode cX1_drawEvenFromNothing 22 = .ok (.iload_n 3, 1) := by decide +kernel
theorem dX1_drawEvenFromNothing_23 : decode cX1_drawEvenFromNothing 23 = .ok (.iconst 0, 1) := by decide +kernel
theorem dX1_drawEvenFromNothing_24 : decode cX1_drawEvenFromNothing 24 = .ok (.iastore, 1) := by decide +kernel
theorem dX1_drawEvenFromNothing_25 : decode cX1_drawEvenFromNothing 25 = .ok (.iinc 3 1, 3) := by decide +kernel
theorem dX1_drawEvenFromNothing_28 : decode cX1_drawEvenFromNothing 28 = .ok (.goto (-26), 3) := by decide +kernel
theorem dX1_drawEvenFromNothing_31 : decode cX1_drawEvenFromNothing 31 = .ok (.iconst 0, 1) := by decide +kernel
theorem dX1_drawEvenFromNothing_32 : decode cX1_drawEvenFromNothing 32 = .ok (.istore_n 3, 1) := by decide +kernel
theorem dX1_drawEvenFromNothing_33 : decode cX1_drawEvenFromNothing 33 = .ok (.iload_n 3, 1) := by decide +kernel
theorem dX1_drawEvenFromNothing_34 : decode cX1_drawEvenFromNothing 34 = .ok (.sipush 1202, 3) := by decide +kernel
theorem dX1_drawEvenFromNothing_37 : decode cX1_drawEvenFromNothing 37 = .ok (.if_icmp .ge 43, 3) := by decide +kernel
theorem dX1_drawEvenFromNothing_40 : decode cX1_drawEvenFromNothing 40 = .ok (.aload_n 0, 1) := by decide +kernel
theorem dX1_drawEvenFromNothing_41 : decode cX1_drawEvenFromNothing 41 = .ok (.aload_n 1, 1) := by decide +kernel
theorem dX1_drawEvenFromNothing_42 : decode cX1_drawEvenFromNothing 42 = .ok (.aload_n 0, 1) := by decide +kernel
theorem dX1_drawEvenFromNothing_43 : decode cX1_drawEvenFromNothing 43 = .ok (.getfield 25, 3) := by decide +kernel
theorem dX1_drawEvenFromNothing_46 : decode cX1_drawEvenFromNothing 46 = .ok (.iload_n 2, 1) := by decide +kernel
theorem dX1_drawEvenFromNothing_47 : decode cX1_drawEvenFromNothing 47 = .ok (.invokevirtual 92, 3) := by decide +kernel
theorem dX1_drawEvenFromNothing_50 : decode cX1_drawEvenFromNothing 50 = .ok (.istore 4, 2) := by decide +kernel
theorem dX1_drawEvenFromNothing_52 : decode cX1_drawEvenFromNothing 52 = .ok (.iload 4, 2) := by decide +kernel
theorem dX1_drawEvenFromNothing_54 : decode cX1_drawEvenFromNothing 54 = .ok (.iconst (-1), 1) := by decide +kernel
theorem dX1_drawEvenFromNothing_55 : decode cX1_drawEvenFromNothing 55 = .ok (.if_icmp .eq 8, 3) := by decide +kernel
theorem dX1_drawEvenFromNothing_58 : decode cX1_drawEvenFromNothing 58 = .ok (.iload 4, 2) := by decide +kernel
theorem dX1_drawEvenFromNothing_60 : decode cX1_drawEvenFromNothing 60 = .ok (.ifCond .ne 14, 3) := by decide +kernel
theorem dX1_drawEvenFromNothing_63 : decode cX1_drawEvenFromNothing 63 = .ok (.iload 4, 2) := by decide +kernel
theorem dX1_drawEvenFromNothing_65 : decode cX1_drawEvenFromNothing 65 = .ok (.ifCond .ne 7, 3) := by decide +kernel
theorem dX1_drawEvenFromNothing_68 : decode cX1_drawEvenFromNothing 68 = .ok (.iconst 1, 1) := by decide +kernel
theorem dX1_drawEvenFromNothing_69 : decode cX1_drawEvenFromNothing 69 = .ok (.goto 4, 3) := by decide +kernel
theorem dX1_drawEvenFromNothing_72 : decode cX1_drawEvenFromNothing 72 = .ok (.iconst 0, 1) := by decide +kernel
theorem dX1_drawEvenFromNothing_73 : decode cX1_drawEvenFromNothing 73 = .ok (.ireturn, 1) := by decide +kernel
theorem dX1_drawEvenFromNothing_74 : decode cX1_drawEvenFromNothing 74 = .ok (.iinc 3 1, 3) := by decide +kernel
theorem dX1_drawEvenFromNothing_77 : decode cX1_drawEvenFromNothing 77 = .ok (.goto (-44), 3) := by decide +kernel
theorem dX1_drawEvenFromNothing_80 : decode cX1_drawEvenFromNothing 80 = .ok (.iconst 0, 1) := by decide +kernel
theorem dX1_drawEvenFromNothing_81 : decode cX1_drawEvenFromNothing 81 = .ok (.ireturn, 1) := by decide +kernel
theorem dX2_init_0 : decode cX2_init 0 = .ok (.aload_n 0, 1) := by decide +kernel
theorem dX2_init_1 : decode cX2_init 1 = .ok (.invokespecial 3, 3) := by decide +kernel
theorem dX2_init_4 : decode cX2_init 4 = .ok (.aload_n 0, 1) := by decide +kernel
theorem dX2_init_5 : decode cX2_init 5 = .ok (.bipush 6, 2) := by decide +kernel
theorem dX2_init_7 : decode cX2_init 7 = .ok (.newarray .int, 2) := by decide +kernel
theorem dX2_init_9 : decode cX2_init 9 = .ok (.putfield 9, 3) := by decide +kernel
theorem dX2_init_12 : decode cX2_init 12 = .ok (.aload_n 0, 1) := by decide +kernel
theorem dX2_init_13 : decode cX2_init 13 = .ok (.bipush 6, 2) := by decide +kernel
theorem dX2_init_15 : decode cX2_init 15 = .ok (.newarray .int, 2) := by decide +kernel
theorem dX2_init_17 : decode cX2_init 17 = .ok (.putfield 15, 3) := by decide +kernel
theorem dX2_init_20 : decode cX2_init 20 = .ok (.aload_n 0, 1) := by decide +kernel
theorem dX2_init_21 : decode cX2_init 21 = .ok (.bipush 6, 2) := by decide +kernel
theorem dX2_init_23 : decode cX2_init 23 = .ok (.newarray .int, 2) := by decide +kernel
theorem dX2_init_25 : decode cX2_init 25 = .ok (.putfield 18, 3) := by decide +kernel
theorem dX2_init_28 : decode cX2_init 28 = .ok (.aload_n 0, 1) := by decide +kernel
theorem dX2_init_29 : decode cX2_init 29 = .ok (.bipush 6, 2) := by decide +kernel
theorem dX2_init_31 : decode cX2_init 31 = .ok (.newarray .int, 2) := by decide +kernel
theorem dX2_init_33 : decode cX2_init 33 = .ok (.putfield 21, 3) := by decide +kernel
theorem dX2_init_36 : decode cX2_init 36 = .ok (.aload_n 0, 1) := by decide +kernel
theorem dX2_init_37 : decode cX2_init 37 = .ok (.bipush 6, 2) := by decide +kernel
theorem dX2_init_39 : decode cX2_init 39 = .ok (.newarray .int, 2) := by decide +kernel
theorem dX2_init_41 : decode cX2_init 41 = .ok (.putfield 24, 3) := by decide +kernel
theorem dX2_init_44 : decode cX2_init 44 = .ok (.return_, 1) := by decide +kernel
theorem dX2_begin_0 : decode cX2_begin 0 = .ok (.aload_n 0, 1) := by decide +kernel
theorem dX2_begin_1 : decode cX2_begin 1 = .ok (.iload_n 1, 1) := by decide +kernel
theorem dX2_begin_2 : decode cX2_begin 2 = .ok (.putfield 27, 3) := by decide +kernel
theorem dX2_begin_5 : decode cX2_begin 5 = .ok (.aload_n 0, 1) := by decide +kernel
theorem dX2_begin_6 : decode cX2_begin 6 = .ok (.iload_n 2, 1) := by decide +kernel
theorem dX2_begin_7 : decode cX2_begin 7 = .ok (.putfield 31, 3) := by decide +kernel
theorem dX2_begin_10 : decode cX2_begin 10 = .ok (.aload_n 0, 1) := by decide +kernel
theorem dX2_begin_11 : decode cX2_begin 11 = .ok (.iconst 0, 1) := by decide +kernel
theorem dX2_begin_12 : decode cX2_begin 12 = .ok (.putfield 34, 3) := by decide +kernel
theorem dX2_begin_15 : decode cX2_begin 15 = .ok (.iconst 0, 1) := by decide +kernel
theorem dX2_begin_16 : decode cX2_begin 16 = .ok (.istore_n 3, 1) := by decide +kernel
theorem dX2_begin_17 : decode cX2_begin 17 = .ok (.iload_n 3, 1) := by decide +kernel
theorem dX2_begin_18 : decode cX2_begin 18 = .ok (.bipush 6, 2) := by decide +kernel
theorem dX2_begin_20 : decode cX2_begin 20 = .ok (.if_icmp .ge 44, 3) := by decide +kernel
theorem dX2_begin_23 : decode cX2_begin 23 = .ok (.aload_n 0, 1) := by decide +kernel
theorem dX2_begin_24 : decode cX2_begin 24 = .ok (.getfield 9, 3) := by decide +kernel
theorem dX2_begin_27 : decode cX2_begin 27 = .ok (.iload_n 3, 1) := by decide +kernel
theorem dX2_begin_28 : decode cX2_begin 28 = .ok (.iconst 5, 1) := by decide +kernel
theorem dX2_begin_29 : decode cX2_begin 29 = .ok (.iastore, 1) := by decide +kernel
theorem dX2_begin_30 : decode cX2_begin 30 = .ok (.aload_n 0, 1) := by decide +kernel
theorem dX2_begin_31 : decode cX2_begin 31 = .ok (.getfield 15, 3) := by decide +kernel
theorem dX2_begin_34 : decode cX2_begin 34 = .ok (.iload_n 3, 1) := by decide +kernel
theorem dX2_begin_35 : decode cX2_begin 35 = .ok (.iconst 3, 1) := by decide +kernel
theorem dX2_begin_36 : decode cX2_begin 36 = .ok (.iastore, 1) := by decide +kernel
theorem dX2_begin_37 : decode cX2_begin 37 = .ok (.aload_n 0, 1) := by decide +kernel
theorem dX2_begin_38 : decode cX2_begin 38 = .ok (.getfield 18, 3) := by decide +kernel
theorem dX2_begin_41 : decode cX2_begin 41 = .ok (.iload_n 3, 1) := by decide +kernel
theorem dX2_begin_42 : decode cX2_begin 42 = .ok (.iconst 0, 1) := by decide +kernel
theorem dX2_begin_43 : decode cX2_begin 43 = .ok (.iastore, 1) := by decide +kernel
theorem dX2_begin_44 : decode cX2_begin 44 = .ok (.aload_n 0, 1) := by decide +kernel
theorem dX2_begin_45 : decode cX2_begin 45 = .ok (.getfield 21, 3) := by decide +kernel
theorem dX2_begin_48 : decode cX2_begin 48 = .ok (.iload_n 3, 1) := by decide +kernel
theorem dX2_begin_49 : decode cX2_begin 49 = .ok (.iconst 0, 1) := by decide +kernel
theorem dX2_begin_50 : decode cX2_begin 50 = .ok (.iastore, 1) := by decide +kernel
theorem dX2_begin_51 : decode cX2_begin 51 = .ok (.aload_n 0, 1) := by decide +kernel
theorem dX2_begin_52 : decode cX2_begin 52 = .ok (.getfield 24, 3) := by decide +kernel
theorem dX2_begin_55 : decode cX2_begin 55 = .ok (.iload_n 3, 1) := by decide +kernel
theorem dX2_begin_56 : decode cX2_begin 56 = .ok (.iload_n 3, 1) := by decide +kernel
theorem dX2_begin_57 : decode cX2_begin 57 = .ok (.iastore, 1) := by decide +kernel
theorem dX2_begin_58 : decode cX2_begin 58 = .ok (.iinc 3 1, 3) := by decide +kernel
theorem dX2_begin_61 : decode cX2_begin 61 = .ok (.goto (-44), 3) := by decide +kernel
theorem dX2_begin_64 : decode cX2_begin 64 = .ok (.return_, 1) := by decide +kernel
theorem dX2_has_0 : decode cX2_has 0 = .ok (.iload_n 1, 1) := by decide +kernel
theorem dX2_has_1 : decode cX2_has 1 = .ok (.ifCond .lt 15, 3) := by decide +kernel
theorem dX2_has_4 : decode cX2_has 4 = .ok (.iload_n 1, 1) := by decide +kernel
theorem dX2_has_5 : decode cX2_has 5 = .ok (.aload_n 0, 1) := by decide +kernel
theorem dX2_has_6 : decode cX2_has 6 = .ok (.getfield 27, 3) := by decide +kernel
theorem dX2_has_9 : decode cX2_has 9 = .ok (.if_icmp .ge 7, 3) := by decide +kernel
theorem dX2_has_12 : decode cX2_has 12 = .ok (.iconst 1, 1) := by decide +kernel
theorem dX2_has_13 : decode cX2_has 13 = .ok (.goto 4, 3) := by decide +kernel
theorem dX2_has_16 : decode cX2_has 16 = .ok (.iconst 0, 1) := by decide +kernel
theorem dX2_has_17 : decode cX2_has 17 = .ok (.ireturn, 1) := by decide +kernel
theorem dX2_allSet_0 : decode cX2_allSet 0 = .ok (.iconst 1, 1) := by decide +kernel
theorem dX2_allSet_1 : decode cX2_allSet 1 = .ok (.aload_n 0, 1) := by decide +kernel
theorem dX2_allSet_2 : decode cX2_allSet 2 = .ok (.getfield 27, 3) := by decide +kernel
theorem dX2_allSet_5 : decode cX2_allSet 5 = .ok (.ishl, 1) := by decide +kernel
theorem dX2_allSet_6 : decode cX2_allSet 6 = .ok (.iconst 1, 1) := by decide +kernel
theorem dX2_allSet_7 : decode cX2_allSet 7 = .ok (.isub, 1) := by decide +kernel
theorem dX2_allSet_8 : decode cX2_allSet 8 = .ok (.ireturn, 1) := by decide +kernel
theorem dX2_isBroken_0 : decode cX2_isBroken 0 = .ok (.aload_n 0, 1) := by decide +kernel
theorem dX2_isBroken_1 : decode cX2_isBroken 1 = .ok (.getfield 34, 3) := by decide +kernel
theorem dX2_isBroken_4 : decode cX2_isBroken 4 = .ok (.iload_n 1, 1) := by decide +kernel
theorem dX2_isBroken_5 : decode cX2_isBroken 5 = .ok (.ishr, 1) := by decide +kernel
theorem dX2_isBroken_6 : decode cX2_isBroken 6 = .ok (.iconst 1, 1) := by decide +kernel
theorem dX2_isBroken_7 : decode cX2_isBroken 7 = .ok (.iand, 1) := by decide +kernel
theorem dX2_isBroken_8 : decode cX2_isBroken 8 = .ok (.ifCond .eq 7, 3) := by decide +kernel
theorem dX2_isBroken_11 : decode cX2_isBroken 11 = .ok (.iconst 1, 1) := by decide +kernel
theorem dX2_isBroken_12 : decode cX2_isBroken 12 = .ok (.goto 4, 3) := by decide +kernel
theorem dX2_isBroken_15 : decode cX2_isBroken 15 = .ok (.iconst 0, 1) := by decide +kernel
theorem dX2_isBroken_16 : decode cX2_isBroken 16 = .ok (.ireturn, 1) := by decide +kernel
theorem dX2_markBroken_0 : decode cX2_markBroken 0 = .ok (.aload_n 0, 1) := by decide +kernel
theorem dX2_markBroken_1 : decode cX2_markBroken 1 = .ok (.iload_n 2, 1) := by decide +kernel
theorem dX2_markBroken_2 : decode cX2_markBroken 2 = .ok (.ifCond .eq 14, 3) := by decide +kernel
theorem dX2_markBroken_5 : decode cX2_markBroken 5 = .ok (.aload_n 0, 1) := by decide +kernel
theorem dX2_markBroken_6 : decode cX2_markBroken 6 = .ok (.getfield 34, 3) := by decide +kernel
theorem dX2_markBroken_9 : decode cX2_markBroken 9 = .ok (.iconst 1, 1) := by decide +kernel
theorem dX2_markBroken_10 : decode cX2_markBroken 10 = .ok (.iload_n 1, 1) := by decide +kernel
theorem dX2_markBroken_11 : decode cX2_markBroken 11 = .ok (.ishl, 1) := by decide +kernel
theorem dX2_markBroken_12 : decode cX2_markBroken 12 = .ok (.ior, 1) := by decide +kernel
theorem dX2_markBroken_13 : decode cX2_markBroken 13 = .ok (.goto 13, 3) := by decide +kernel
theorem dX2_markBroken_16 : decode cX2_markBroken 16 = .ok (.aload_n 0, 1) := by decide +kernel
theorem dX2_markBroken_17 : decode cX2_markBroken 17 = .ok (.getfield 34, 3) := by decide +kernel
theorem dX2_markBroken_20 : decode cX2_markBroken 20 = .ok (.iconst 1, 1) := by decide +kernel
theorem dX2_markBroken_21 : decode cX2_markBroken 21 = .ok (.iload_n 1, 1) := by decide +kernel
theorem dX2_markBroken_22 : decode cX2_markBroken 22 = .ok (.ishl, 1) := by decide +kernel
theorem dX2_markBroken_23 : decode cX2_markBroken 23 = .ok (.iconst (-1), 1) := by decide +kernel
theorem dX2_markBroken_24 : decode cX2_markBroken 24 = .ok (.ixor, 1) := by decide +kernel
theorem dX2_markBroken_25 : decode cX2_markBroken 25 = .ok (.iand, 1) := by decide +kernel
theorem dX2_markBroken_26 : decode cX2_markBroken 26 = .ok (.putfield 34, 3) := by decide +kernel
theorem dX2_markBroken_29 : decode cX2_markBroken 29 = .ok (.return_, 1) := by decide +kernel
set_option maxRecDepth 20000 in
theorem ggX2_wholeCount_J6_bitCount_0f7a4 : GoodIn wsX2_wholeCount wsJ6_bitCount_0f7a4 := goodIn_r _ [6, 7, 8, 9] (by decide +kernel) (by decide +kernel)
set_option maxRecDepth 20000 in
theorem gX2_wholeCount_J6_bitCount_0f7a4 : GoodIn wsX2_wholeCount (va_wsS RX2 37 yJ6_bitCount_0f7a4 wsJ6_bitCount_0f7a4) := goodIn_app (goodIn_of _ (by decide +kernel)) ggX2_wholeCount_J6_bitCount_0f7a4
theorem dX2_wholeCount_0 : decode cX2_wholeCount 0 = .ok (.aload_n 0, 1) := by decide +kernel
theorem dX2_wholeCount_1 : decode cX2_wholeCount 1 = .ok (.getfield 27, 3) := by decide +kernel
theorem dX2_wholeCount_4 : decode cX2_wholeCount 4 = .ok (.aload_n 0, 1) := by decide +kernel
theorem dX2_wholeCount_5 : decode cX2_wholeCount 5 = .ok (.getfield 34, 3) := by decide +kernel
theorem dX2_wholeCount_8 : decode cX2_wholeCount 8 = .ok (.invokestatic 37, 3) := by decide +kernel
theorem dX2_wholeCount_11 : decode cX2_wholeCount 11 = .ok (.isub, 1) := by decide +kernel
theorem dX2_wholeCount_12 : decode cX2_wholeCount 12 = .ok (.ireturn, 1) := by decide +kernel
theorem dX2_valuesOf_0 : decode cX2_valuesOf 0 = .ok (.iload_n 1, 1) := by decide +kernel
theorem dX2_valuesOf_1 : decode cX2_valuesOf 1 = .ok (.tableswitch 42 0 2 #[27, 32, 37], 27) := by decide +kernel
theorem dX2_valuesOf_28 : decode cX2_valuesOf 28 = .ok (.aload_n 0, 1) := by decide +kernel
theorem dX2_valuesOf_29 : decode cX2_valuesOf 29 = .ok (.getfield 9, 3) := by decide +kernel
theorem dX2_valuesOf_32 : decode cX2_valuesOf 32 = .ok (.areturn, 1) := by decide +kernel
theorem dX2_valuesOf_33 : decode cX2_valuesOf 33 = .ok (.aload_n 0, 1) := by decide +kernel
theorem dX2_valuesOf_34 : decode cX2_valuesOf 34 = .ok (.getfield 15, 3) := by decide +kernel
theorem dX2_valuesOf_37 : decode cX2_valuesOf 37 = .ok (.areturn, 1) := by decide +kernel
theorem dX2_valuesOf_38 : decode cX2_valuesOf 38 = .ok (.aload_n 0, 1) := by decide +kernel
theorem dX2_valuesOf_39 : decode cX2_valuesOf 39 = .ok (.getfield 18, 3) := by decide +kernel
theorem dX2_valuesOf_42 : decode cX2_valuesOf 42 = .ok (.areturn, 1) := by decide +kernel
theorem dX2_valuesOf_43 : decode cX2_valuesOf 43 = .ok (.aload_n 0, 1) := by decide +kernel
theorem dX2_valuesOf_44 : decode cX2_valuesOf 44 = .ok (.getfield 21, 3) := by decide +kernel
theorem dX2_valuesOf_47 : decode cX2_valuesOf 47 = .ok (.areturn, 1) := by decide +kernel
theorem dX2_sumOf_0 : decode cX2_sumOf 0 = .ok (.iconst 0, 1) := by decide +kernel
theorem dX2_sumOf_1 : decode cX2_sumOf 1 = .ok (.istore_n 2, 1) := by decide +kernel
theorem dX2_sumOf_2 : decode cX2_sumOf 2 = .ok (.iconst 0, 1) := by decide +kernel
theorem dX2_sumOf_3 : decode cX2_sumOf 3 = .ok (.istore_n 3, 1) := by decide +kernel
theorem dX2_sumOf_4 : decode cX2_sumOf 4 = .ok (.iload_n 3, 1) := by decide +kernel
theorem dX2_sumOf_5 : decode cX2_sumOf 5 = .ok (.aload_n 0, 1) := by decide +kernel
theorem dX2_sumOf_6 : decode cX2_sumOf 6 = .ok (.getfield 27, 3) := by decide +kernel
theorem dX2_sumOf_9 : decode cX2_sumOf 9 = .ok (.if_icmp .ge 15, 3) := by decide +kernel
theorem dX2_sumOf_12 : decode cX2_sumOf 12 = .ok (.iload_n 2, 1) := by decide +kernel
theorem dX2_sumOf_13 : decode cX2_sumOf 13 = .ok (.aload_n 1, 1) := by decide +kernel
theorem dX2_sumOf_14 : decode cX2_sumOf 14 = .ok (.iload_n 3, 1) := by decide +kernel
theorem dX2_sumOf_15 : decode cX2_sumOf 15 = .ok (.iaload, 1) := by decide +kernel
theorem dX2_sumOf_16 : decode cX2_sumOf 16 = .ok (.iadd, 1) := by decide +kernel
theorem dX2_sumOf_17 : decode cX2_sumOf 17 = .ok (.istore_n 2, 1) := by decide +kernel
theorem dX2_sumOf_18 : decode cX2_sumOf 18 = .ok (.iinc 3 1, 3) := by decide +kernel
theorem dX2_sumOf_21 : decode cX2_sumOf 21 = .ok (.goto (-17), 3) := by decide +kernel
theorem dX2_sumOf_24 : decode cX2_sumOf 24 = .ok (.iload_n 2, 1) := by decide +kernel
theorem dX2_sumOf_25 : decode cX2_sumOf 25 = .ok (.ireturn, 1) := by decide +kernel
theorem dX2_placeInRow_0 : decode cX2_placeInRow 0 = .ok (.iconst 0, 1) := by decide +kernel
theorem dX2_placeInRow_1 : decode cX2_placeInRow 1 = .ok (.istore_n 2, 1) := by decide +kernel
theorem dX2_placeInRow_2 : decode cX2_placeInRow 2 = .ok (.iload_n 2, 1) := by decide +kernel
theorem dX2_placeInRow_3 : decode cX2_placeInRow 3 = .ok (.aload_n 0, 1) := by decide +kernel
theorem dX2_placeInRow_4 : decode cX2_placeInRow 4 = .ok (.getfield 27, 3) := by decide +kernel
theorem dX2_placeInRow_7 : decode cX2_placeInRow 7 = .ok (.iconst 1, 1) := by decide +kernel
theorem dX2_placeInRow_8 : decode cX2_placeInRow 8 = .ok (.isub, 1) := by decide +kernel
theorem dX2_placeInRow_9 : decode cX2_placeInRow 9 = .ok (.if_icmp .ge 19, 3) := by decide +kernel
theorem dX2_placeInRow_12 : decode cX2_placeInRow 12 = .ok (.aload_n 0, 1) := by decide +kernel
theorem dX2_placeInRow_13 : decode cX2_placeInRow 13 = .ok (.getfield 24, 3) := by decide +kernel
theorem dX2_placeInRow_16 : decode cX2_placeInRow 16 = .ok (.iload_n 2, 1) := by decide +kernel
theorem dX2_placeInRow_17 : decode cX2_placeInRow 17 = .ok (.iaload, 1) := by decide +kernel
theorem dX2_placeInRow_18 : decode cX2_placeInRow 18 = .ok (.iload_n 1, 1) := by decide +kernel
theorem dX2_placeInRow_19 : decode cX2_placeInRow 19 = .ok (.if_icmp .eq 9, 3) := by decide +kernel
theorem dX2_placeInRow_22 : decode cX2_placeInRow 22 = .ok (.iinc 2 1, 3) := by decide +kernel
theorem dX2_placeInRow_25 : decode cX2_placeInRow 25 = .ok (.goto (-23), 3) := by decide +kernel
theorem dX2_placeInRow_28 : decode cX2_placeInRow 28 = .ok (.iload_n 2, 1) := by decide +kernel
theorem dX2_placeInRow_29 : decode cX2_placeInRow 29 = .ok (.ireturn, 1) := by decide +kernel
set_option maxRecDepth 20000 in
theorem ggX2_takeRow_X2_isRow : GoodIn wsX2_takeRow wsX2_isRow := goodIn_r _ [7, 1, 8, 9, 10, 6, 11, 12, 13, 14, 15, 16, 17, 18, 19] (by decide +kernel) (by decide +kernel)
set_option maxRecDepth 20000 in
theorem gX2_takeRow_X2_isRow : GoodIn wsX2_takeRow (wsV RX2 43 RX2 yX2_isRow wsX2_isRow) := goodIn_app (goodIn_of _ (by decide +kernel)) ggX2_takeRow_X2_isRow
theorem dX2_takeRow_0 : decode cX2_takeRow 0 = .ok (.aload_n 0, 1) := by decide +kernel
theorem dX2_takeRow_1 : decode cX2_takeRow 1 = .ok (.iload_n 1, 1) := by decide +kernel
theorem dX2_takeRow_2 : decode cX2_takeRow 2 = .ok (.invokevirtual 43, 3) := by decide +kernel
theorem dX2_takeRow_5 : decode cX2_takeRow 5 = .ok (.ifCond .ne 5, 3) := by decide +kernel
theorem dX2_takeRow_8 : decode cX2_takeRow 8 = .ok (.iconst 0, 1) := by decide +kernel
theorem dX2_takeRow_9 : decode cX2_takeRow 9 = .ok (.ireturn, 1) := by decide +kernel
theorem dX2_takeRow_10 : decode cX2_takeRow 10 = .ok (.iload_n 1, 1) := by decide +kernel
theorem dX2_takeRow_11 : decode cX2_takeRow 11 = .ok (.istore_n 2, 1) := by decide +kernel
theorem dX2_takeRow_12 : decode cX2_takeRow 12 = .ok (.aload_n 0, 1) := by decide +kernel
theorem dX2_takeRow_13 : decode cX2_takeRow 13 = .ok (.getfield 27, 3) := by decide +kernel
theorem dX2_takeRow_16 : decode cX2_takeRow 16 = .ok (.iconst 1, 1) := by decide +kernel
theorem dX2_takeRow_17 : decode cX2_takeRow 17 = .ok (.isub, 1) := by decide +kernel
theorem dX2_takeRow_18 : decode cX2_takeRow 18 = .ok (.istore_n 3, 1) := by decide +kernel
theorem dX2_takeRow_19 : decode cX2_takeRow 19 = .ok (.iload_n 3, 1) := by decide +kernel
