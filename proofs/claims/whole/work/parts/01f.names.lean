theorem dX8_even_1 : decode cX8_even 1 = .ok (.iconst (-1), 1) := by decide +kernel
theorem dX8_even_2 : decode cX8_even 2 = .ok (.if_icmp .eq 14, 3) := by decide +kernel
theorem dX8_even_5 : decode cX8_even 5 = .ok (.aload_n 0, 1) := by decide +kernel
theorem dX8_even_6 : decode cX8_even 6 = .ok (.iload_n 2, 1) := by decide +kernel
theorem dX8_even_7 : decode cX8_even 7 = .ok (.invokevirtual 106, 3) := by decide +kernel
theorem dX8_even_10 : decode cX8_even 10 = .ok (.ifCond .eq 6, 3) := by decide +kernel
theorem dX8_even_13 : decode cX8_even 13 = .ok (.ldc 110, 2) := by decide +kernel
theorem dX8_even_15 : decode cX8_even 15 = .ok (.ireturn, 1) := by decide +kernel
theorem dX8_even_16 : decode cX8_even 16 = .ok (.iload_n 1, 1) := by decide +kernel
theorem dX8_even_17 : decode cX8_even 17 = .ok (.invokestatic 175, 3) := by decide +kernel
theorem dX8_even_20 : decode cX8_even 20 = .ok (.ifCond .ne 6, 3) := by decide +kernel
theorem dX8_even_23 : decode cX8_even 23 = .ok (.ldc 105, 2) := by decide +kernel
theorem dX8_even_25 : decode cX8_even 25 = .ok (.ireturn, 1) := by decide +kernel
theorem dX8_even_26 : decode cX8_even 26 = .ok (.aload_n 0, 1) := by decide +kernel
theorem dX8_even_27 : decode cX8_even 27 = .ok (.invokevirtual 194, 3) := by decide +kernel
theorem dX8_even_30 : decode cX8_even 30 = .ok (.aload_n 0, 1) := by decide +kernel
theorem dX8_even_31 : decode cX8_even 31 = .ok (.iload_n 1, 1) := by decide +kernel
theorem dX8_even_32 : decode cX8_even 32 = .ok (.invokevirtual 217, 3) := by decide +kernel
theorem dX8_even_35 : decode cX8_even 35 = .ok (.istore_n 3, 1) := by decide +kernel
theorem dX8_even_36 : decode cX8_even 36 = .ok (.iconst 0, 1) := by decide +kernel
theorem dX8_even_37 : decode cX8_even 37 = .ok (.istore 4, 2) := by decide +kernel
theorem dX8_even_39 : decode cX8_even 39 = .ok (.iconst 0, 1) := by decide +kernel
theorem dX8_even_40 : decode cX8_even 40 = .ok (.istore 5, 2) := by decide +kernel
theorem dX8_even_42 : decode cX8_even 42 = .ok (.iload 5, 2) := by decide +kernel
theorem dX8_even_44 : decode cX8_even 44 = .ok (.aload_n 0, 1) := by decide +kernel
theorem dX8_even_45 : decode cX8_even 45 = .ok (.getfield 86, 3) := by decide +kernel
theorem dX8_even_48 : decode cX8_even 48 = .ok (.if_icmp .ge 21, 3) := by decide +kernel
theorem dX8_even_51 : decode cX8_even 51 = .ok (.iload 4, 2) := by decide +kernel
theorem dX8_even_53 : decode cX8_even 53 = .ok (.aload_n 0, 1) := by decide +kernel
theorem dX8_even_54 : decode cX8_even 54 = .ok (.getfield 16, 3) := by decide +kernel
theorem dX8_even_57 : decode cX8_even 57 = .ok (.iload 5, 2) := by decide +kernel
theorem dX8_even_59 : decode cX8_even 59 = .ok (.iaload, 1) := by decide +kernel
theorem dX8_even_60 : decode cX8_even 60 = .ok (.iadd, 1) := by decide +kernel
theorem dX8_even_61 : decode cX8_even 61 = .ok (.istore 4, 2) := by decide +kernel
theorem dX8_even_63 : decode cX8_even 63 = .ok (.iinc 5 1, 3) := by decide +kernel
theorem dX8_even_66 : decode cX8_even 66 = .ok (.goto (-24), 3) := by decide +kernel
theorem dX8_even_69 : decode cX8_even 69 = .ok (.iload_n 3, 1) := by decide +kernel
theorem dX8_even_70 : decode cX8_even 70 = .ok (.ifCond .ne 8, 3) := by decide +kernel
theorem dX8_even_73 : decode cX8_even 73 = .ok (.ldc 121, 2) := by decide +kernel
theorem dX8_even_75 : decode cX8_even 75 = .ok (.goto 18, 3) := by decide +kernel
theorem dX8_even_78 : decode cX8_even 78 = .ok (.iload_n 2, 1) := by decide +kernel
theorem dX8_even_79 : decode cX8_even 79 = .ok (.ifCond .ge 8, 3) := by decide +kernel
theorem dX8_even_82 : decode cX8_even 82 = .ok (.iload 4, 2) := by decide +kernel
theorem dX8_even_84 : decode cX8_even 84 = .ok (.goto 9, 3) := by decide +kernel
theorem dX8_even_87 : decode cX8_even 87 = .ok (.aload_n 0, 1) := by decide +kernel
theorem dX8_even_88 : decode cX8_even 88 = .ok (.getfield 16, 3) := by decide +kernel
theorem dX8_even_91 : decode cX8_even 91 = .ok (.iload_n 2, 1) := by decide +kernel
theorem dX8_even_92 : decode cX8_even 92 = .ok (.iaload, 1) := by decide +kernel
theorem dX8_even_93 : decode cX8_even 93 = .ok (.istore 5, 2) := by decide +kernel
theorem dX8_even_95 : decode cX8_even 95 = .ok (.aload_n 0, 1) := by decide +kernel
theorem dX8_even_96 : decode cX8_even 96 = .ok (.invokevirtual 200, 3) := by decide +kernel
theorem dX8_even_99 : decode cX8_even 99 = .ok (.iload 5, 2) := by decide +kernel
theorem dX8_even_101 : decode cX8_even 101 = .ok (.ireturn, 1) := by decide +kernel
theorem dX8_newCase_0 : decode cX8_newCase 0 = .ok (.aload_n 0, 1) := by decide +kernel
theorem dX8_newCase_1 : decode cX8_newCase 1 = .ok (.getfield 92, 3) := by decide +kernel
theorem dX8_newCase_4 : decode cX8_newCase 4 = .ok (.bipush 6, 2) := by decide +kernel
theorem dX8_newCase_6 : decode cX8_newCase 6 = .ok (.if_icmp .ne 6, 3) := by decide +kernel
theorem dX8_newCase_9 : decode cX8_newCase 9 = .ok (.ldc 220, 2) := by decide +kernel
theorem dX8_newCase_11 : decode cX8_newCase 11 = .ok (.ireturn, 1) := by decide +kernel
theorem dX8_newCase_12 : decode cX8_newCase 12 = .ok (.iconst 0, 1) := by decide +kernel
theorem dX8_newCase_13 : decode cX8_newCase 13 = .ok (.istore_n 1, 1) := by decide +kernel
theorem dX8_newCase_14 : decode cX8_newCase 14 = .ok (.iload_n 1, 1) := by decide +kernel
theorem dX8_newCase_15 : decode cX8_newCase 15 = .ok (.bipush 6, 2) := by decide +kernel
theorem dX8_newCase_17 : decode cX8_newCase 17 = .ok (.if_icmp .ge 24, 3) := by decide +kernel
theorem dX8_newCase_20 : decode cX8_newCase 20 = .ok (.aload_n 0, 1) := by decide +kernel
theorem dX8_newCase_21 : decode cX8_newCase 21 = .ok (.getfield 29, 3) := by decide +kernel
theorem dX8_newCase_24 : decode cX8_newCase 24 = .ok (.bipush 6, 2) := by decide +kernel
theorem dX8_newCase_26 : decode cX8_newCase 26 = .ok (.aload_n 0, 1) := by decide +kernel
theorem dX8_newCase_27 : decode cX8_newCase 27 = .ok (.getfield 92, 3) := by decide +kernel
theorem dX8_newCase_30 : decode cX8_newCase 30 = .ok (.imul, 1) := by decide +kernel
theorem dX8_newCase_31 : decode cX8_newCase 31 = .ok (.iload_n 1, 1) := by decide +kernel
theorem dX8_newCase_32 : decode cX8_newCase 32 = .ok (.iadd, 1) := by decide +kernel
theorem dX8_newCase_33 : decode cX8_newCase 33 = .ok (.iconst 0, 1) := by decide +kernel
theorem dX8_newCase_34 : decode cX8_newCase 34 = .ok (.iastore, 1) := by decide +kernel
theorem dX8_newCase_35 : decode cX8_newCase 35 = .ok (.iinc 1 1, 3) := by decide +kernel
theorem dX8_newCase_38 : decode cX8_newCase 38 = .ok (.goto (-24), 3) := by decide +kernel
theorem dX8_newCase_41 : decode cX8_newCase 41 = .ok (.aload_n 0, 1) := by decide +kernel
theorem dX8_newCase_42 : decode cX8_newCase 42 = .ok (.dup, 1) := by decide +kernel
theorem dX8_newCase_43 : decode cX8_newCase 43 = .ok (.getfield 92, 3) := by decide +kernel
theorem dX8_newCase_46 : decode cX8_newCase 46 = .ok (.iconst 1, 1) := by decide +kernel
theorem dX8_newCase_47 : decode cX8_newCase 47 = .ok (.iadd, 1) := by decide +kernel
theorem dX8_newCase_48 : decode cX8_newCase 48 = .ok (.putfield 92, 3) := by decide +kernel
theorem dX8_newCase_51 : decode cX8_newCase 51 = .ok (.aload_n 0, 1) := by decide +kernel
theorem dX8_newCase_52 : decode cX8_newCase 52 = .ok (.getfield 92, 3) := by decide +kernel
theorem dX8_newCase_55 : decode cX8_newCase 55 = .ok (.iconst 1, 1) := by decide +kernel
theorem dX8_newCase_56 : decode cX8_newCase 56 = .ok (.isub, 1) := by decide +kernel
theorem dX8_newCase_57 : decode cX8_newCase 57 = .ok (.ireturn, 1) := by decide +kernel
set_option maxRecDepth 20000 in
theorem ggX8_load_X8_in : GoodIn wsX8_load wsX8_in := goodIn_r _ [9] (by decide +kernel) (by decide +kernel)
set_option maxRecDepth 20000 in
theorem gX8_load_X8_in : GoodIn wsX8_load (va_wsS RX8 99 yX8_in wsX8_in) := goodIn_app (goodIn_of _ (by decide +kernel)) ggX8_load_X8_in
set_option maxRecDepth 20000 in
theorem ggX8_load_X8_noBolt : GoodIn wsX8_load wsX8_noBolt := goodIn_r _ [13, 14, 6, 7, 8, 9, 15, 16, 17, 18, 19, 20, 21, 22, 23, 24, 25, 26, 27, 28, 29, 30, 31, 32, 33, 34, 35, 36, 37, 38, 39, 40, 41, 42, 43, 44, 45, 46, 47, 48, 49, 50, 51, 52, 53, 54, 55] (by decide +kernel) (by decide +kernel)
set_option maxRecDepth 20000 in
theorem gX8_load_X8_noBolt : GoodIn wsX8_load (wsV RX8 106 RX8 yX8_noBolt wsX8_noBolt) := goodIn_app (goodIn_of _ (by decide +kernel)) ggX8_load_X8_noBolt
theorem dX8_load_0 : decode cX8_load 0 = .ok (.iload_n 1, 1) := by decide +kernel
theorem dX8_load_1 : decode cX8_load 1 = .ok (.i2l, 1) := by decide +kernel
theorem dX8_load_2 : decode cX8_load 2 = .ok (.lconst 0, 1) := by decide +kernel
theorem dX8_load_3 : decode cX8_load 3 = .ok (.aload_n 0, 1) := by decide +kernel
theorem dX8_load_4 : decode cX8_load 4 = .ok (.getfield 92, 3) := by decide +kernel
theorem dX8_load_7 : decode cX8_load 7 = .ok (.iconst 1, 1) := by decide +kernel
theorem dX8_load_8 : decode cX8_load 8 = .ok (.isub, 1) := by decide +kernel
theorem dX8_load_9 : decode cX8_load 9 = .ok (.i2l, 1) := by decide +kernel
theorem dX8_load_10 : decode cX8_load 10 = .ok (.invokestatic 99, 3) := by decide +kernel
theorem dX8_load_13 : decode cX8_load 13 = .ok (.ifCond .eq 11, 3) := by decide +kernel
theorem dX8_load_16 : decode cX8_load 16 = .ok (.aload_n 0, 1) := by decide +kernel
theorem dX8_load_17 : decode cX8_load 17 = .ok (.iload_n 2, 1) := by decide +kernel
theorem dX8_load_18 : decode cX8_load 18 = .ok (.invokevirtual 106, 3) := by decide +kernel
theorem dX8_load_21 : decode cX8_load 21 = .ok (.ifCond .eq 6, 3) := by decide +kernel
theorem dX8_load_24 : decode cX8_load 24 = .ok (.ldc 110, 2) := by decide +kernel
theorem dX8_load_26 : decode cX8_load 26 = .ok (.ireturn, 1) := by decide +kernel
theorem dX8_load_27 : decode cX8_load 27 = .ok (.iload_n 3, 1) := by decide +kernel
theorem dX8_load_28 : decode cX8_load 28 = .ok (.i2l, 1) := by decide +kernel
theorem dX8_load_29 : decode cX8_load 29 = .ok (.lconst 0, 1) := by decide +kernel
theorem dX8_load_30 : decode cX8_load 30 = .ok (.ldc2_w 111, 3) := by decide +kernel
theorem dX8_load_33 : decode cX8_load 33 = .ok (.invokestatic 99, 3) := by decide +kernel
theorem dX8_load_36 : decode cX8_load 36 = .ok (.ifCond .ne 6, 3) := by decide +kernel
theorem dX8_load_39 : decode cX8_load 39 = .ok (.ldc 105, 2) := by decide +kernel
theorem dX8_load_41 : decode cX8_load 41 = .ok (.ireturn, 1) := by decide +kernel
theorem dX8_load_42 : decode cX8_load 42 = .ok (.aload_n 0, 1) := by decide +kernel
theorem dX8_load_43 : decode cX8_load 43 = .ok (.getfield 29, 3) := by decide +kernel
theorem dX8_load_46 : decode cX8_load 46 = .ok (.bipush 6, 2) := by decide +kernel
theorem dX8_load_48 : decode cX8_load 48 = .ok (.iload_n 1, 1) := by decide +kernel
theorem dX8_load_49 : decode cX8_load 49 = .ok (.imul, 1) := by decide +kernel
theorem dX8_load_50 : decode cX8_load 50 = .ok (.iload_n 2, 1) := by decide +kernel
theorem dX8_load_51 : decode cX8_load 51 = .ok (.iadd, 1) := by decide +kernel
theorem dX8_load_52 : decode cX8_load 52 = .ok (.iaload, 1) := by decide +kernel
theorem dX8_load_53 : decode cX8_load 53 = .ok (.istore 4, 2) := by decide +kernel
theorem dX8_load_55 : decode cX8_load 55 = .ok (.aload_n 0, 1) := by decide +kernel
theorem dX8_load_56 : decode cX8_load 56 = .ok (.getfield 29, 3) := by decide +kernel
theorem dX8_load_59 : decode cX8_load 59 = .ok (.bipush 6, 2) := by decide +kernel
theorem dX8_load_61 : decode cX8_load 61 = .ok (.iload_n 1, 1) := by decide +kernel
theorem dX8_load_62 : decode cX8_load 62 = .ok (.imul, 1) := by decide +kernel
theorem dX8_load_63 : decode cX8_load 63 = .ok (.iload_n 2, 1) := by decide +kernel
theorem dX8_load_64 : decode cX8_load 64 = .ok (.iadd, 1) := by decide +kernel
theorem dX8_load_65 : decode cX8_load 65 = .ok (.iload_n 3, 1) := by decide +kernel
theorem dX8_load_66 : decode cX8_load 66 = .ok (.iastore, 1) := by decide +kernel
theorem dX8_load_67 : decode cX8_load 67 = .ok (.iload 4, 2) := by decide +kernel
theorem dX8_load_69 : decode cX8_load 69 = .ok (.ireturn, 1) := by decide +kernel
set_option maxRecDepth 20000 in
theorem ggX8_findLeak_X8_findLifts : GoodIn wsX8_findLeak wsX8_findLifts := goodIn_r _ [10, 2, 11, 12, 13, 14, 15, 9, 16, 17, 18, 19, 20, 21, 22, 23, 24, 25, 26, 27, 3, 28, 29, 30, 31, 32, 33, 34, 35, 36, 37, 38, 39, 40, 48, 49, 50, 51, 52, 53, 54, 55, 56, 57, 58, 59, 60, 61, 62, 63, 64, 65, 66, 67, 68, 69, 70, 71, 72, 73, 74, 75, 76, 77, 78, 79, 80, 81, 82, 83, 84, 85, 86, 87, 88] (by decide +kernel) (by decide +kernel)
set_option maxRecDepth 20000 in
theorem gX8_findLeak_X8_findLifts : GoodIn wsX8_findLeak (wsV RX8 145 RX8 yX8_findLifts wsX8_findLifts) := goodIn_app (goodIn_of _ (by decide +kernel)) ggX8_findLeak_X8_findLifts
set_option maxRecDepth 20000 in
theorem ggX8_findLeak_X8_press : GoodIn wsX8_findLeak wsX8_press := goodIn_r _ [44, 28, 21, 48, 49, 50, 51, 52, 53, 54, 55, 56, 57, 58, 59, 60, 61, 62, 63, 64, 65, 66, 67, 68, 69, 70, 71, 72, 73, 74, 75, 76, 77, 78, 79, 80, 81, 82, 83, 84, 85, 86, 87, 88] (by decide +kernel) (by decide +kernel)
set_option maxRecDepth 20000 in
theorem gX8_findLeak_X8_press : GoodIn wsX8_findLeak (wsV RX8 152 RX8 yX8_press wsX8_press) := goodIn_app (goodIn_of _ (by decide +kernel)) ggX8_findLeak_X8_press
set_option maxRecDepth 20000 in
theorem ggX8_findLeak_X8_gcd : GoodIn wsX8_findLeak wsX8_gcd := goodIn_r _ [47] (by decide +kernel) (by decide +kernel)
set_option maxRecDepth 20000 in
theorem gX8_findLeak_X8_gcd : GoodIn wsX8_findLeak (va_wsS RX8 159 yX8_gcd wsX8_gcd) := goodIn_app (goodIn_of _ (by decide +kernel)) ggX8_findLeak_X8_gcd
theorem dX8_findLeak_0 : decode cX8_findLeak 0 = .ok (.aload_n 0, 1) := by decide +kernel
theorem dX8_findLeak_1 : decode cX8_findLeak 1 = .ok (.invokevirtual 145, 3) := by decide +kernel
theorem dX8_findLeak_4 : decode cX8_findLeak 4 = .ok (.aload_n 0, 1) := by decide +kernel
theorem dX8_findLeak_5 : decode cX8_findLeak 5 = .ok (.iconst 0, 1) := by decide +kernel
theorem dX8_findLeak_6 : decode cX8_findLeak 6 = .ok (.putfield 221, 3) := by decide +kernel
theorem dX8_findLeak_9 : decode cX8_findLeak 9 = .ok (.iconst 1, 1) := by decide +kernel
theorem dX8_findLeak_10 : decode cX8_findLeak 10 = .ok (.istore_n 1, 1) := by decide +kernel
theorem dX8_findLeak_11 : decode cX8_findLeak 11 = .ok (.iload_n 1, 1) := by decide +kernel
theorem dX8_findLeak_12 : decode cX8_findLeak 12 = .ok (.aload_n 0, 1) := by decide +kernel
theorem dX8_findLeak_13 : decode cX8_findLeak 13 = .ok (.getfield 86, 3) := by decide +kernel
theorem dX8_findLeak_16 : decode cX8_findLeak 16 = .ok (.if_icmp .ge 38, 3) := by decide +kernel
theorem dX8_findLeak_19 : decode cX8_findLeak 19 = .ok (.aload_n 0, 1) := by decide +kernel
theorem dX8_findLeak_20 : decode cX8_findLeak 20 = .ok (.aload_n 0, 1) := by decide +kernel
theorem dX8_findLeak_21 : decode cX8_findLeak 21 = .ok (.iload_n 1, 1) := by decide +kernel
theorem dX8_findLeak_22 : decode cX8_findLeak 22 = .ok (.invokevirtual 152, 3) := by decide +kernel
theorem dX8_findLeak_25 : decode cX8_findLeak 25 = .ok (.aload_n 0, 1) := by decide +kernel
theorem dX8_findLeak_26 : decode cX8_findLeak 26 = .ok (.aload_n 0, 1) := by decide +kernel
theorem dX8_findLeak_27 : decode cX8_findLeak 27 = .ok (.getfield 221, 3) := by decide +kernel
theorem dX8_findLeak_30 : decode cX8_findLeak 30 = .ok (.invokevirtual 152, 3) := by decide +kernel
theorem dX8_findLeak_33 : decode cX8_findLeak 33 = .ok (.lcmp, 1) := by decide +kernel
theorem dX8_findLeak_34 : decode cX8_findLeak 34 = .ok (.ifCond .ge 7, 3) := by decide +kernel
theorem dX8_findLeak_37 : decode cX8_findLeak 37 = .ok (.iload_n 1, 1) := by decide +kernel
theorem dX8_findLeak_38 : decode cX8_findLeak 38 = .ok (.goto 7, 3) := by decide +kernel
theorem dX8_findLeak_41 : decode cX8_findLeak 41 = .ok (.aload_n 0, 1) := by decide +kernel
theorem dX8_findLeak_42 : decode cX8_findLeak 42 = .ok (.getfield 221, 3) := by decide +kernel
theorem dX8_findLeak_45 : decode cX8_findLeak 45 = .ok (.putfield 221, 3) := by decide +kernel
theorem dX8_findLeak_48 : decode cX8_findLeak 48 = .ok (.iinc 1 1, 3) := by decide +kernel
theorem dX8_findLeak_51 : decode cX8_findLeak 51 = .ok (.goto (-40), 3) := by decide +kernel
theorem dX8_findLeak_54 : decode cX8_findLeak 54 = .ok (.aload_n 0, 1) := by decide +kernel
theorem dX8_findLeak_55 : decode cX8_findLeak 55 = .ok (.aload_n 0, 1) := by decide +kernel
theorem dX8_findLeak_56 : decode cX8_findLeak 56 = .ok (.getfield 221, 3) := by decide +kernel
theorem dX8_findLeak_59 : decode cX8_findLeak 59 = .ok (.invokevirtual 152, 3) := by decide +kernel
theorem dX8_findLeak_62 : decode cX8_findLeak 62 = .ok (.lstore_n 1, 1) := by decide +kernel
theorem dX8_findLeak_63 : decode cX8_findLeak 63 = .ok (.lload_n 1, 1) := by decide +kernel
theorem dX8_findLeak_64 : decode cX8_findLeak 64 = .ok (.aload_n 0, 1) := by decide +kernel
theorem dX8_findLeak_65 : decode cX8_findLeak 65 = .ok (.getfield 124, 3) := by decide +kernel
theorem dX8_findLeak_68 : decode cX8_findLeak 68 = .ok (.invokestatic 159, 3) := by decide +kernel
theorem dX8_findLeak_71 : decode cX8_findLeak 71 = .ok (.lstore_n 3, 1) := by decide +kernel
theorem dX8_findLeak_72 : decode cX8_findLeak 72 = .ok (.aload_n 0, 1) := by decide +kernel
theorem dX8_findLeak_73 : decode cX8_findLeak 73 = .ok (.lload_n 1, 1) := by decide +kernel
theorem dX8_findLeak_74 : decode cX8_findLeak 74 = .ok (.lload_n 3, 1) := by decide +kernel
theorem dX8_findLeak_75 : decode cX8_findLeak 75 = .ok (.ldiv, 1) := by decide +kernel
theorem dX8_findLeak_76 : decode cX8_findLeak 76 = .ok (.putfield 224, 3) := by decide +kernel
theorem dX8_findLeak_79 : decode cX8_findLeak 79 = .ok (.aload_n 0, 1) := by decide +kernel
theorem dX8_findLeak_80 : decode cX8_findLeak 80 = .ok (.aload_n 0, 1) := by decide +kernel
theorem dX8_findLeak_81 : decode cX8_findLeak 81 = .ok (.getfield 124, 3) := by decide +kernel
theorem dX8_findLeak_84 : decode cX8_findLeak 84 = .ok (.lload_n 3, 1) := by decide +kernel
theorem dX8_findLeak_85 : decode cX8_findLeak 85 = .ok (.ldiv, 1) := by decide +kernel
theorem dX8_findLeak_86 : decode cX8_findLeak 86 = .ok (.putfield 227, 3) := by decide +kernel
theorem dX8_findLeak_89 : decode cX8_findLeak 89 = .ok (.return_, 1) := by decide +kernel
set_option maxRecDepth 20000 in
theorem ggX8_findLeakOf_X8_findLeak : GoodIn wsX8_findLeakOf wsX8_findLeak := goodIn_r _ [9, 10, 1, 11, 12, 13, 14, 15, 16, 8, 17, 18, 19, 20, 21, 22, 23, 24, 25, 26, 27, 28, 29, 3, 30, 31, 32, 33, 34, 35, 36, 37, 38, 39, 40, 41, 42, 43, 44, 45, 46, 47, 48, 49, 50, 51, 52, 53, 54, 55, 56, 57, 58, 59, 60, 61, 62, 63, 64, 65, 66, 67, 68, 69, 70, 71, 72, 73, 74, 75, 76, 77, 78, 79, 80, 81, 82, 83, 84, 85, 86, 87, 88, 89, 90, 91, 92, 93, 94] (by decide +kernel) (by decide +kernel)
set_option maxRecDepth 20000 in
theorem gX8_findLeakOf_X8_findLeak : GoodIn wsX8_findLeakOf (wsV RX8 230 RX8 yX8_findLeak wsX8_findLeak) := goodIn_app (goodIn_of _ (by decide +kernel)) ggX8_findLeakOf_X8_findLeak
theorem dX8_findLeakOf_0 : decode cX8_findLeakOf 0 = .ok (.iconst 0, 1) := by decide +kernel
theorem dX8_findLeakOf_1 : decode cX8_findLeakOf 1 = .ok (.istore_n 2, 1) := by decide +kernel
theorem dX8_findLeakOf_2 : decode cX8_findLeakOf 2 = .ok (.iload_n 2, 1) := by decide +kernel
theorem dX8_findLeakOf_3 : decode cX8_findLeakOf 3 = .ok (.aload_n 0, 1) := by decide +kernel
theorem dX8_findLeakOf_4 : decode cX8_findLeakOf 4 = .ok (.getfield 86, 3) := by decide +kernel
theorem dX8_findLeakOf_7 : decode cX8_findLeakOf 7 = .ok (.if_icmp .ge 51, 3) := by decide +kernel
theorem dX8_findLeakOf_10 : decode cX8_findLeakOf 10 = .ok (.aload_n 0, 1) := by decide +kernel
theorem dX8_findLeakOf_11 : decode cX8_findLeakOf 11 = .ok (.getfield 63, 3) := by decide +kernel
theorem dX8_findLeakOf_14 : decode cX8_findLeakOf 14 = .ok (.iload_n 2, 1) := by decide +kernel
theorem dX8_findLeakOf_15 : decode cX8_findLeakOf 15 = .ok (.aload_n 0, 1) := by decide +kernel
theorem dX8_findLeakOf_16 : decode cX8_findLeakOf 16 = .ok (.getfield 19, 3) := by decide +kernel
theorem dX8_findLeakOf_19 : decode cX8_findLeakOf 19 = .ok (.iload_n 2, 1) := by decide +kernel
theorem dX8_findLeakOf_20 : decode cX8_findLeakOf 20 = .ok (.iaload, 1) := by decide +kernel
theorem dX8_findLeakOf_21 : decode cX8_findLeakOf 21 = .ok (.iastore, 1) := by decide +kernel
theorem dX8_findLeakOf_22 : decode cX8_findLeakOf 22 = .ok (.aload_n 0, 1) := by decide +kernel
theorem dX8_findLeakOf_23 : decode cX8_findLeakOf 23 = .ok (.getfield 19, 3) := by decide +kernel
theorem dX8_findLeakOf_26 : decode cX8_findLeakOf 26 = .ok (.iload_n 2, 1) := by decide +kernel
theorem dX8_findLeakOf_27 : decode cX8_findLeakOf 27 = .ok (.iload_n 1, 1) := by decide +kernel
theorem dX8_findLeakOf_28 : decode cX8_findLeakOf 28 = .ok (.ifCond .ge 12, 3) := by decide +kernel
theorem dX8_findLeakOf_31 : decode cX8_findLeakOf 31 = .ok (.aload_n 0, 1) := by decide +kernel
theorem dX8_findLeakOf_32 : decode cX8_findLeakOf 32 = .ok (.getfield 19, 3) := by decide +kernel
theorem dX8_findLeakOf_35 : decode cX8_findLeakOf 35 = .ok (.iload_n 2, 1) := by decide +kernel
theorem dX8_findLeakOf_36 : decode cX8_findLeakOf 36 = .ok (.iaload, 1) := by decide +kernel
theorem dX8_findLeakOf_37 : decode cX8_findLeakOf 37 = .ok (.goto 14, 3) := by decide +kernel
theorem dX8_findLeakOf_40 : decode cX8_findLeakOf 40 = .ok (.aload_n 0, 1) := by decide +kernel
theorem dX8_findLeakOf_41 : decode cX8_findLeakOf 41 = .ok (.getfield 29, 3) := by decide +kernel
theorem dX8_findLeakOf_44 : decode cX8_findLeakOf 44 = .ok (.bipush 6, 2) := by decide +kernel
theorem dX8_findLeakOf_46 : decode cX8_findLeakOf 46 = .ok (.iload_n 1, 1) := by decide +kernel
theorem dX8_findLeakOf_47 : decode cX8_findLeakOf 47 = .ok (.imul, 1) := by decide +kernel
theorem dX8_findLeakOf_48 : decode cX8_findLeakOf 48 = .ok (.iload_n 2, 1) := by decide +kernel
theorem dX8_findLeakOf_49 : decode cX8_findLeakOf 49 = .ok (.iadd, 1) := by decide +kernel
theorem dX8_findLeakOf_50 : decode cX8_findLeakOf 50 = .ok (.iaload, 1) := by decide +kernel
theorem dX8_findLeakOf_51 : decode cX8_findLeakOf 51 = .ok (.iastore, 1) := by decide +kernel
theorem dX8_findLeakOf_52 : decode cX8_findLeakOf 52 = .ok (.iinc 2 1, 3) := by decide +kernel
theorem dX8_findLeakOf_55 : decode cX8_findLeakOf 55 = .ok (.goto (-53), 3) := by decide +kernel
theorem dX8_findLeakOf_58 : decode cX8_findLeakOf 58 = .ok (.aload_n 0, 1) := by decide +kernel
theorem dX8_findLeakOf_59 : decode cX8_findLeakOf 59 = .ok (.invokevirtual 230, 3) := by decide +kernel
theorem dX8_findLeakOf_62 : decode cX8_findLeakOf 62 = .ok (.iconst 0, 1) := by decide +kernel
theorem dX8_findLeakOf_63 : decode cX8_findLeakOf 63 = .ok (.istore_n 2, 1) := by decide +kernel
theorem dX8_findLeakOf_64 : decode cX8_findLeakOf 64 = .ok (.iload_n 2, 1) := by decide +kernel
theorem dX8_findLeakOf_65 : decode cX8_findLeakOf 65 = .ok (.aload_n 0, 1) := by decide +kernel
theorem dX8_findLeakOf_66 : decode cX8_findLeakOf 66 = .ok (.getfield 86, 3) := by decide +kernel
theorem dX8_findLeakOf_69 : decode cX8_findLeakOf 69 = .ok (.if_icmp .ge 21, 3) := by decide +kernel
theorem dX8_findLeakOf_72 : decode cX8_findLeakOf 72 = .ok (.aload_n 0, 1) := by decide +kernel
theorem dX8_findLeakOf_73 : decode cX8_findLeakOf 73 = .ok (.getfield 19, 3) := by decide +kernel
theorem dX8_findLeakOf_76 : decode cX8_findLeakOf 76 = .ok (.iload_n 2, 1) := by decide +kernel
theorem dX8_findLeakOf_77 : decode cX8_findLeakOf 77 = .ok (.aload_n 0, 1) := by decide +kernel
theorem dX8_findLeakOf_78 : decode cX8_findLeakOf 78 = .ok (.getfield 63, 3) := by decide +kernel
theorem dX8_findLeakOf_81 : decode cX8_findLeakOf 81 = .ok (.iload_n 2, 1) := by decide +kernel
theorem dX8_findLeakOf_82 : decode cX8_findLeakOf 82 = .ok (.iaload, 1) := by decide +kernel
theorem dX8_findLeakOf_83 : decode cX8_findLeakOf 83 = .ok (.iastore, 1) := by decide +kernel
theorem dX8_findLeakOf_84 : decode cX8_findLeakOf 84 = .ok (.iinc 2 1, 3) := by decide +kernel
theorem dX8_findLeakOf_87 : decode cX8_findLeakOf 87 = .ok (.goto (-23), 3) := by decide +kernel
theorem dX8_findLeakOf_90 : decode cX8_findLeakOf 90 = .ok (.return_, 1) := by decide +kernel
set_option maxRecDepth 20000 in
theorem ggX8_leak_X8_in : GoodIn wsX8_leak wsX8_in := goodIn_r _ [12] (by decide +kernel) (by decide +kernel)
set_option maxRecDepth 20000 in
theorem gX8_leak_X8_in : GoodIn wsX8_leak (va_wsS RX8 99 yX8_in wsX8_in) := goodIn_app (goodIn_of _ (by decide +kernel)) ggX8_leak_X8_in
set_option maxRecDepth 20000 in
theorem ggX8_leak_X8_findLeakOf : GoodIn wsX8_leak wsX8_findLeakOf := goodIn_r _ [16, 17, 18, 19, 20, 21, 22, 23, 11, 24, 8, 25, 6, 7, 26, 27, 28, 29, 30, 31, 32, 33, 34, 35, 36, 4, 37, 38, 39, 40, 41, 42, 43, 44, 45, 46, 47, 48, 49, 50, 51, 52, 53, 54, 55, 56, 57, 58, 59, 60, 61, 62, 63, 64, 65, 66, 67, 68, 69, 70, 71, 72, 73, 74, 75, 76, 77, 78, 79, 80, 81, 82, 83, 84, 85, 86, 87, 88, 89, 90, 91, 92, 93, 94, 95, 96, 97, 98, 99, 100, 101, 102, 103, 104, 105] (by decide +kernel) (by decide +kernel)
set_option maxRecDepth 20000 in
theorem gX8_leak_X8_findLeakOf : GoodIn wsX8_leak (wsV RX8 235 RX8 yX8_findLeakOf wsX8_findLeakOf) := goodIn_app (goodIn_of _ (by decide +kernel)) ggX8_leak_X8_findLeakOf
theorem dX8_leak_0 : decode cX8_leak 0 = .ok (.iload_n 1, 1) := by decide +kernel
theorem dX8_leak_1 : decode cX8_leak 1 = .ok (.i2l, 1) := by decide +kernel
theorem dX8_leak_2 : decode cX8_leak 2 = .ok (.ldc2_w 233, 3) := by decide +kernel
theorem dX8_leak_5 : decode cX8_leak 5 = .ok (.aload_n 0, 1) := by decide +kernel
theorem dX8_leak_6 : decode cX8_leak 6 = .ok (.getfield 92, 3) := by decide +kernel
theorem dX8_leak_9 : decode cX8_leak 9 = .ok (.iconst 1, 1) := by decide +kernel
theorem dX8_leak_10 : decode cX8_leak 10 = .ok (.isub, 1) := by decide +kernel
theorem dX8_leak_11 : decode cX8_leak 11 = .ok (.i2l, 1) := by decide +kernel
theorem dX8_leak_12 : decode cX8_leak 12 = .ok (.invokestatic 99, 3) := by decide +kernel
theorem dX8_leak_15 : decode cX8_leak 15 = .ok (.ifCond .ne 7, 3) := by decide +kernel
theorem dX8_leak_18 : decode cX8_leak 18 = .ok (.ldc2_w 155, 3) := by decide +kernel
theorem dX8_leak_21 : decode cX8_leak 21 = .ok (.lreturn, 1) := by decide +kernel
theorem dX8_leak_22 : decode cX8_leak 22 = .ok (.iload_n 2, 1) := by decide +kernel
theorem dX8_leak_23 : decode cX8_leak 23 = .ok (.i2l, 1) := by decide +kernel
theorem dX8_leak_24 : decode cX8_leak 24 = .ok (.lconst 0, 1) := by decide +kernel
theorem dX8_leak_25 : decode cX8_leak 25 = .ok (.ldc2_w 122, 3) := by decide +kernel
theorem dX8_leak_28 : decode cX8_leak 28 = .ok (.invokestatic 99, 3) := by decide +kernel
theorem dX8_leak_31 : decode cX8_leak 31 = .ok (.ifCond .ne 7, 3) := by decide +kernel
theorem dX8_leak_34 : decode cX8_leak 34 = .ok (.ldc2_w 157, 3) := by decide +kernel
theorem dX8_leak_37 : decode cX8_leak 37 = .ok (.lreturn, 1) := by decide +kernel
theorem dX8_leak_38 : decode cX8_leak 38 = .ok (.aload_n 0, 1) := by decide +kernel
theorem dX8_leak_39 : decode cX8_leak 39 = .ok (.iload_n 1, 1) := by decide +kernel
theorem dX8_leak_40 : decode cX8_leak 40 = .ok (.invokevirtual 235, 3) := by decide +kernel
theorem dX8_leak_43 : decode cX8_leak 43 = .ok (.iload_n 2, 1) := by decide +kernel
theorem dX8_leak_44 : decode cX8_leak 44 = .ok (.ifCond .ne 10, 3) := by decide +kernel
theorem dX8_leak_47 : decode cX8_leak 47 = .ok (.aload_n 0, 1) := by decide +kernel
theorem dX8_leak_48 : decode cX8_leak 48 = .ok (.getfield 224, 3) := by decide +kernel
theorem dX8_leak_51 : decode cX8_leak 51 = .ok (.goto 20, 3) := by decide +kernel
theorem dX8_leak_54 : decode cX8_leak 54 = .ok (.iload_n 2, 1) := by decide +kernel
theorem dX8_leak_55 : decode cX8_leak 55 = .ok (.iconst 1, 1) := by decide +kernel
theorem dX8_leak_56 : decode cX8_leak 56 = .ok (.if_icmp .ne 10, 3) := by decide +kernel
theorem dX8_leak_59 : decode cX8_leak 59 = .ok (.aload_n 0, 1) := by decide +kernel
theorem dX8_leak_60 : decode cX8_leak 60 = .ok (.getfield 227, 3) := by decide +kernel
theorem dX8_leak_63 : decode cX8_leak 63 = .ok (.goto 8, 3) := by decide +kernel
theorem dX8_leak_66 : decode cX8_leak 66 = .ok (.aload_n 0, 1) := by decide +kernel
theorem dX8_leak_67 : decode cX8_leak 67 = .ok (.getfield 221, 3) := by decide +kernel
theorem dX8_leak_70 : decode cX8_leak 70 = .ok (.i2l, 1) := by decide +kernel
theorem dX8_leak_71 : decode cX8_leak 71 = .ok (.lreturn, 1) := by decide +kernel
set_option maxRecDepth 20000 in
theorem ggX8_worst_X8_findLeakOf : GoodIn wsX8_worst wsX8_findLeakOf := goodIn_r _ [8, 9, 10, 11, 12, 13, 14, 15, 7, 16, 17, 18, 1, 2, 19, 20, 21, 22, 23, 24, 25, 26, 27, 28, 29, 30, 31, 32, 33, 34, 35, 36, 37, 38, 39, 40, 41, 42, 43, 44, 45, 46, 47, 48, 49, 50, 51, 52, 53, 54, 55, 56, 57, 58, 62, 63, 64, 65, 66, 67, 68, 69, 70, 71, 72, 73, 74, 75, 76, 77, 78, 79, 80, 81, 82, 83, 84, 85, 86, 87, 88, 89, 90, 91, 92, 93, 94, 95, 96, 97, 98, 99, 100, 101, 102] (by decide +kernel) (by decide +kernel)
set_option maxRecDepth 20000 in
theorem gX8_worst_X8_findLeakOf : GoodIn wsX8_worst (wsV RX8 235 RX8 yX8_findLeakOf wsX8_findLeakOf) := goodIn_app (goodIn_of _ (by decide +kernel)) ggX8_worst_X8_findLeakOf
set_option maxRecDepth 20000 in
theorem ggX8_worst_X8_held : GoodIn wsX8_worst wsX8_held := goodIn_r _ [61] (by decide +kernel) (by decide +kernel)
set_option maxRecDepth 20000 in
theorem gX8_worst_X8_held : GoodIn wsX8_worst (va_wsS RX8 238 yX8_held wsX8_held) := goodIn_app (goodIn_of _ (by decide +kernel)) ggX8_worst_X8_held
theorem dX8_worst_0 : decode cX8_worst 0 = .ok (.iconst (-1), 1) := by decide +kernel
theorem dX8_worst_1 : decode cX8_worst 1 = .ok (.istore_n 1, 1) := by decide +kernel
theorem dX8_worst_2 : decode cX8_worst 2 = .ok (.aload_n 0, 1) := by decide +kernel
theorem dX8_worst_3 : decode cX8_worst 3 = .ok (.iconst (-1), 1) := by decide +kernel
theorem dX8_worst_4 : decode cX8_worst 4 = .ok (.invokevirtual 235, 3) := by decide +kernel
theorem dX8_worst_7 : decode cX8_worst 7 = .ok (.aload_n 0, 1) := by decide +kernel
theorem dX8_worst_8 : decode cX8_worst 8 = .ok (.getfield 224, 3) := by decide +kernel
theorem dX8_worst_11 : decode cX8_worst 11 = .ok (.lstore_n 2, 1) := by decide +kernel
theorem dX8_worst_12 : decode cX8_worst 12 = .ok (.aload_n 0, 1) := by decide +kernel
theorem dX8_worst_13 : decode cX8_worst 13 = .ok (.getfield 227, 3) := by decide +kernel
theorem dX8_worst_16 : decode cX8_worst 16 = .ok (.lstore 4, 2) := by decide +kernel
theorem dX8_worst_18 : decode cX8_worst 18 = .ok (.iconst 0, 1) := by decide +kernel
theorem dX8_worst_19 : decode cX8_worst 19 = .ok (.istore 6, 2) := by decide +kernel
theorem dX8_worst_21 : decode cX8_worst 21 = .ok (.iload 6, 2) := by decide +kernel
theorem dX8_worst_23 : decode cX8_worst 23 = .ok (.aload_n 0, 1) := by decide +kernel
theorem dX8_worst_24 : decode cX8_worst 24 = .ok (.getfield 92, 3) := by decide +kernel
theorem dX8_worst_27 : decode cX8_worst 27 = .ok (.if_icmp .ge 46, 3) := by decide +kernel
theorem dX8_worst_30 : decode cX8_worst 30 = .ok (.aload_n 0, 1) := by decide +kernel
theorem dX8_worst_31 : decode cX8_worst 31 = .ok (.iload 6, 2) := by decide +kernel
theorem dX8_worst_33 : decode cX8_worst 33 = .ok (.invokevirtual 235, 3) := by decide +kernel
theorem dX8_worst_36 : decode cX8_worst 36 = .ok (.aload_n 0, 1) := by decide +kernel
theorem dX8_worst_37 : decode cX8_worst 37 = .ok (.getfield 224, 3) := by decide +kernel
theorem dX8_worst_40 : decode cX8_worst 40 = .ok (.aload_n 0, 1) := by decide +kernel
theorem dX8_worst_41 : decode cX8_worst 41 = .ok (.getfield 227, 3) := by decide +kernel
theorem dX8_worst_44 : decode cX8_worst 44 = .ok (.lload_n 2, 1) := by decide +kernel
theorem dX8_worst_45 : decode cX8_worst 45 = .ok (.lload 4, 2) := by decide +kernel
theorem dX8_worst_47 : decode cX8_worst 47 = .ok (.invokestatic 238, 3) := by decide +kernel
theorem dX8_worst_50 : decode cX8_worst 50 = .ok (.ifCond .ge 17, 3) := by decide +kernel
theorem dX8_worst_53 : decode cX8_worst 53 = .ok (.iload 6, 2) := by decide +kernel
theorem dX8_worst_55 : decode cX8_worst 55 = .ok (.istore_n 1, 1) := by decide +kernel
theorem dX8_worst_56 : decode cX8_worst 56 = .ok (.aload_n 0, 1) := by decide +kernel
theorem dX8_worst_57 : decode cX8_worst 57 = .ok (.getfield 224, 3) := by decide +kernel
theorem dX8_worst_60 : decode cX8_worst 60 = .ok (.lstore_n 2, 1) := by decide +kernel
theorem dX8_worst_61 : decode cX8_worst 61 = .ok (.aload_n 0, 1) := by decide +kernel
theorem dX8_worst_62 : decode cX8_worst 62 = .ok (.getfield 227, 3) := by decide +kernel
theorem dX8_worst_65 : decode cX8_worst 65 = .ok (.lstore 4, 2) := by decide +kernel
theorem dX8_worst_67 : decode cX8_worst 67 = .ok (.iinc 6 1, 3) := by decide +kernel
theorem dX8_worst_70 : decode cX8_worst 70 = .ok (.goto (-49), 3) := by decide +kernel
theorem dX8_worst_73 : decode cX8_worst 73 = .ok (.iload_n 1, 1) := by decide +kernel
theorem dX8_worst_74 : decode cX8_worst 74 = .ok (.ireturn, 1) := by decide +kernel
set_option maxRecDepth 20000 in
theorem ggX8_weakest_X8_whole : GoodIn wsX8_weakest wsX8_whole := goodIn_r _ [9, 1, 2, 10, 11, 8, 12, 62, 63, 64, 65, 66, 67, 68, 69, 70, 71, 72, 73, 74, 75, 76, 77, 78, 79, 80, 81, 82, 83, 84, 85, 86, 87, 88, 89, 90, 91, 92, 93, 94, 95, 96, 97, 98, 99, 100, 101, 102] (by decide +kernel) (by decide +kernel)
set_option maxRecDepth 20000 in
theorem gX8_weakest_X8_whole : GoodIn wsX8_weakest (wsV RX8 117 RX8 yX8_whole wsX8_whole) := goodIn_app (goodIn_of _ (by decide +kernel)) ggX8_weakest_X8_whole
set_option maxRecDepth 20000 in
theorem ggX8_weakest_X8_findLeak : GoodIn wsX8_weakest wsX8_findLeak := goodIn_r _ [16, 17, 1, 18, 3, 4, 19, 20, 21, 8, 22, 23, 2, 24, 25, 26, 27, 28, 29, 30, 31, 32, 33, 34, 35, 36, 37, 38, 39, 40, 41, 42, 43, 44, 45, 46, 47, 48, 49, 50, 51, 52, 53, 54, 55, 56, 57, 58, 62, 63, 64, 65, 66, 67, 68, 69, 70, 71, 72, 73, 74, 75, 76, 77, 78, 79, 80, 81, 82, 83, 84, 85, 86, 87, 88, 89, 90, 91, 92, 93, 94, 95, 96, 97, 98, 99, 100, 101, 102] (by decide +kernel) (by decide +kernel)
set_option maxRecDepth 20000 in
theorem gX8_weakest_X8_findLeak : GoodIn wsX8_weakest (wsV RX8 230 RX8 yX8_findLeak wsX8_findLeak) := goodIn_app (goodIn_of _ (by decide +kernel)) ggX8_weakest_X8_findLeak
set_option maxRecDepth 20000 in
theorem ggX8_weakest_X8_held : GoodIn wsX8_weakest wsX8_held := goodIn_r _ [61] (by decide +kernel) (by decide +kernel)
set_option maxRecDepth 20000 in
theorem gX8_weakest_X8_held : GoodIn wsX8_weakest (va_wsS RX8 238 yX8_held wsX8_held) := goodIn_app (goodIn_of _ (by decide +kernel)) ggX8_weakest_X8_held
theorem dX8_weakest_0 : decode cX8_weakest 0 = .ok (.aload_n 0, 1) := by decide +kernel
theorem dX8_weakest_1 : decode cX8_weakest 1 = .ok (.invokevirtual 117, 3) := by decide +kernel
theorem dX8_weakest_4 : decode cX8_weakest 4 = .ok (.iconst 1, 1) := by decide +kernel
theorem dX8_weakest_5 : decode cX8_weakest 5 = .ok (.if_icmp .ne 5, 3) := by decide +kernel
theorem dX8_weakest_8 : decode cX8_weakest 8 = .ok (.iconst (-1), 1) := by decide +kernel
theorem dX8_weakest_9 : decode cX8_weakest 9 = .ok (.ireturn, 1) := by decide +kernel
theorem dX8_weakest_10 : decode cX8_weakest 10 = .ok (.iconst (-1), 1) := by decide +kernel
theorem dX8_weakest_11 : decode cX8_weakest 11 = .ok (.istore_n 1, 1) := by decide +kernel
theorem dX8_weakest_12 : decode cX8_weakest 12 = .ok (.lconst 0, 1) := by decide +kernel
theorem dX8_weakest_13 : decode cX8_weakest 13 = .ok (.lstore_n 2, 1) := by decide +kernel
theorem dX8_weakest_14 : decode cX8_weakest 14 = .ok (.lconst 1, 1) := by decide +kernel
theorem dX8_weakest_15 : decode cX8_weakest 15 = .ok (.lstore 4, 2) := by decide +kernel
theorem dX8_weakest_17 : decode cX8_weakest 17 = .ok (.iconst 0, 1) := by decide +kernel
theorem dX8_weakest_18 : decode cX8_weakest 18 = .ok (.istore 6, 2) := by decide +kernel
theorem dX8_weakest_20 : decode cX8_weakest 20 = .ok (.iload 6, 2) := by decide +kernel
theorem dX8_weakest_22 : decode cX8_weakest 22 = .ok (.aload_n 0, 1) := by decide +kernel
theorem dX8_weakest_23 : decode cX8_weakest 23 = .ok (.getfield 86, 3) := by decide +kernel
theorem dX8_weakest_26 : decode cX8_weakest 26 = .ok (.if_icmp .ge 74, 3) := by decide +kernel
theorem dX8_weakest_29 : decode cX8_weakest 29 = .ok (.aload_n 0, 1) := by decide +kernel
theorem dX8_weakest_30 : decode cX8_weakest 30 = .ok (.getfield 22, 3) := by decide +kernel
theorem dX8_weakest_33 : decode cX8_weakest 33 = .ok (.iload 6, 2) := by decide +kernel
theorem dX8_weakest_35 : decode cX8_weakest 35 = .ok (.baload, 1) := by decide +kernel
theorem dX8_weakest_36 : decode cX8_weakest 36 = .ok (.ifCond .ne 58, 3) := by decide +kernel
theorem dX8_weakest_39 : decode cX8_weakest 39 = .ok (.aload_n 0, 1) := by decide +kernel
theorem dX8_weakest_40 : decode cX8_weakest 40 = .ok (.getfield 22, 3) := by decide +kernel
theorem dX8_weakest_43 : decode cX8_weakest 43 = .ok (.iload 6, 2) := by decide +kernel
theorem dX8_weakest_45 : decode cX8_weakest 45 = .ok (.iconst 1, 1) := by decide +kernel
theorem dX8_weakest_46 : decode cX8_weakest 46 = .ok (.bastore, 1) := by decide +kernel
theorem dX8_weakest_47 : decode cX8_weakest 47 = .ok (.aload_n 0, 1) := by decide +kernel
theorem dX8_weakest_48 : decode cX8_weakest 48 = .ok (.invokevirtual 230, 3) := by decide +kernel
theorem dX8_weakest_51 : decode cX8_weakest 51 = .ok (.aload_n 0, 1) := by decide +kernel
theorem dX8_weakest_52 : decode cX8_weakest 52 = .ok (.getfield 22, 3) := by decide +kernel
theorem dX8_weakest_55 : decode cX8_weakest 55 = .ok (.iload 6, 2) := by decide +kernel
theorem dX8_weakest_57 : decode cX8_weakest 57 = .ok (.iconst 0, 1) := by decide +kernel
theorem dX8_weakest_58 : decode cX8_weakest 58 = .ok (.bastore, 1) := by decide +kernel
theorem dX8_weakest_59 : decode cX8_weakest 59 = .ok (.iload_n 1, 1) := by decide +kernel
theorem dX8_weakest_60 : decode cX8_weakest 60 = .ok (.ifCond .lt 20, 3) := by decide +kernel
theorem dX8_weakest_63 : decode cX8_weakest 63 = .ok (.aload_n 0, 1) := by decide +kernel
theorem dX8_weakest_64 : decode cX8_weakest 64 = .ok (.getfield 224, 3) := by decide +kernel
theorem dX8_weakest_67 : decode cX8_weakest 67 = .ok (.aload_n 0, 1) := by decide +kernel
theorem dX8_weakest_68 : decode cX8_weakest 68 = .ok (.getfield 227, 3) := by decide +kernel
theorem dX8_weakest_71 : decode cX8_weakest 71 = .ok (.lload_n 2, 1) := by decide +kernel
theorem dX8_weakest_72 : decode cX8_weakest 72 = .ok (.lload 4, 2) := by decide +kernel
theorem dX8_weakest_74 : decode cX8_weakest 74 = .ok (.invokestatic 238, 3) := by decide +kernel
theorem dX8_weakest_77 : decode cX8_weakest 77 = .ok (.ifCond .ge 17, 3) := by decide +kernel
theorem dX8_weakest_80 : decode cX8_weakest 80 = .ok (.iload 6, 2) := by decide +kernel
theorem dX8_weakest_82 : decode cX8_weakest 82 = .ok (.istore_n 1, 1) := by decide +kernel
theorem dX8_weakest_83 : decode cX8_weakest 83 = .ok (.aload_n 0, 1) := by decide +kernel
theorem dX8_weakest_84 : decode cX8_weakest 84 = .ok (.getfield 224, 3) := by decide +kernel
theorem dX8_weakest_87 : decode cX8_weakest 87 = .ok (.lstore_n 2, 1) := by decide +kernel
theorem dX8_weakest_88 : decode cX8_weakest 88 = .ok (.aload_n 0, 1) := by decide +kernel
theorem dX8_weakest_89 : decode cX8_weakest 89 = .ok (.getfield 227, 3) := by decide +kernel
theorem dX8_weakest_92 : decode cX8_weakest 92 = .ok (.lstore 4, 2) := by decide +kernel
theorem dX8_weakest_94 : decode cX8_weakest 94 = .ok (.iinc 6 1, 3) := by decide +kernel
theorem dX8_weakest_97 : decode cX8_weakest 97 = .ok (.goto (-77), 3) := by decide +kernel
theorem dX8_weakest_100 : decode cX8_weakest 100 = .ok (.iload_n 1, 1) := by decide +kernel
theorem dX8_weakest_101 : decode cX8_weakest 101 = .ok (.ireturn, 1) := by decide +kernel
set_option maxRecDepth 20000 in
theorem ggX8_weights_X8_in : GoodIn wsX8_weights wsX8_in := goodIn_r _ [7] (by decide +kernel) (by decide +kernel)
set_option maxRecDepth 20000 in
theorem gX8_weights_X8_in : GoodIn wsX8_weights (va_wsS RX8 99 yX8_in wsX8_in) := goodIn_app (goodIn_of _ (by decide +kernel)) ggX8_weights_X8_in
theorem dX8_weights_0 : decode cX8_weights 0 = .ok (.iload_n 1, 1) := by decide +kernel
theorem dX8_weights_1 : decode cX8_weights 1 = .ok (.i2l, 1) := by decide +kernel
theorem dX8_weights_2 : decode cX8_weights 2 = .ok (.lconst 0, 1) := by decide +kernel
theorem dX8_weights_3 : decode cX8_weights 3 = .ok (.ldc2_w 103, 3) := by decide +kernel
theorem dX8_weights_6 : decode cX8_weights 6 = .ok (.invokestatic 99, 3) := by decide +kernel
theorem dX8_weights_9 : decode cX8_weights 9 = .ok (.ifCond .eq 35, 3) := by decide +kernel
theorem dX8_weights_12 : decode cX8_weights 12 = .ok (.iload_n 2, 1) := by decide +kernel
theorem dX8_weights_13 : decode cX8_weights 13 = .ok (.i2l, 1) := by decide +kernel
theorem dX8_weights_14 : decode cX8_weights 14 = .ok (.lconst 0, 1) := by decide +kernel
theorem dX8_weights_15 : decode cX8_weights 15 = .ok (.ldc2_w 103, 3) := by decide +kernel
theorem dX8_weights_18 : decode cX8_weights 18 = .ok (.invokestatic 99, 3) := by decide +kernel
theorem dX8_weights_21 : decode cX8_weights 21 = .ok (.ifCond .eq 23, 3) := by decide +kernel
theorem dX8_weights_24 : decode cX8_weights 24 = .ok (.iload_n 3, 1) := by decide +kernel
theorem dX8_weights_25 : decode cX8_weights 25 = .ok (.i2l, 1) := by decide +kernel
theorem dX8_weights_26 : decode cX8_weights 26 = .ok (.lconst 0, 1) := by decide +kernel
theorem dX8_weights_27 : decode cX8_weights 27 = .ok (.ldc2_w 103, 3) := by decide +kernel
theorem dX8_weights_30 : decode cX8_weights 30 = .ok (.invokestatic 99, 3) := by decide +kernel
theorem dX8_weights_33 : decode cX8_weights 33 = .ok (.ifCond .eq 11, 3) := by decide +kernel
theorem dX8_weights_36 : decode cX8_weights 36 = .ok (.iload_n 1, 1) := by decide +kernel
theorem dX8_weights_37 : decode cX8_weights 37 = .ok (.iload_n 2, 1) := by decide +kernel
theorem dX8_weights_38 : decode cX8_weights 38 = .ok (.iadd, 1) := by decide +kernel
theorem dX8_weights_39 : decode cX8_weights 39 = .ok (.iload_n 3, 1) := by decide +kernel
theorem dX8_weights_40 : decode cX8_weights 40 = .ok (.iadd, 1) := by decide +kernel
theorem dX8_weights_41 : decode cX8_weights 41 = .ok (.ifCond .ne 6, 3) := by decide +kernel
theorem dX8_weights_44 : decode cX8_weights 44 = .ok (.ldc 105, 2) := by decide +kernel
theorem dX8_weights_46 : decode cX8_weights 46 = .ok (.ireturn, 1) := by decide +kernel
theorem dX8_weights_47 : decode cX8_weights 47 = .ok (.aload_n 0, 1) := by decide +kernel
theorem dX8_weights_48 : decode cX8_weights 48 = .ok (.getfield 32, 3) := by decide +kernel
theorem dX8_weights_51 : decode cX8_weights 51 = .ok (.iconst 0, 1) := by decide +kernel
theorem dX8_weights_52 : decode cX8_weights 52 = .ok (.iload_n 1, 1) := by decide +kernel
theorem dX8_weights_53 : decode cX8_weights 53 = .ok (.iastore, 1) := by decide +kernel
theorem dX8_weights_54 : decode cX8_weights 54 = .ok (.aload_n 0, 1) := by decide +kernel
theorem dX8_weights_55 : decode cX8_weights 55 = .ok (.getfield 32, 3) := by decide +kernel
theorem dX8_weights_58 : decode cX8_weights 58 = .ok (.iconst 1, 1) := by decide +kernel
theorem dX8_weights_59 : decode cX8_weights 59 = .ok (.iload_n 2, 1) := by decide +kernel
theorem dX8_weights_60 : decode cX8_weights 60 = .ok (.iastore, 1) := by decide +kernel
theorem dX8_weights_61 : decode cX8_weights 61 = .ok (.aload_n 0, 1) := by decide +kernel
theorem dX8_weights_62 : decode cX8_weights 62 = .ok (.getfield 32, 3) := by decide +kernel
theorem dX8_weights_65 : decode cX8_weights 65 = .ok (.iconst 2, 1) := by decide +kernel
theorem dX8_weights_66 : decode cX8_weights 66 = .ok (.iload_n 3, 1) := by decide +kernel
theorem dX8_weights_67 : decode cX8_weights 67 = .ok (.iastore, 1) := by decide +kernel
theorem dX8_weights_68 : decode cX8_weights 68 = .ok (.iconst 1, 1) := by decide +kernel
theorem dX8_weights_69 : decode cX8_weights 69 = .ok (.ireturn, 1) := by decide +kernel
set_option maxRecDepth 20000 in
theorem ggX8_isWithin_X8_pull : GoodIn wsX8_isWithin wsX8_pull := goodIn_r _ [6, 7, 1, 8, 9, 10, 14, 15, 16, 17, 18, 19, 20, 21, 22, 23, 24, 25, 26, 27, 28, 29, 30, 31, 32, 33, 34, 35, 36, 37, 38, 39, 40, 41, 42, 43, 44, 45, 46, 47, 48, 49, 50, 51, 52, 53, 54] (by decide +kernel) (by decide +kernel)
set_option maxRecDepth 20000 in
theorem gX8_isWithin_X8_pull : GoodIn wsX8_isWithin (wsV RX8 148 RX8 yX8_pull wsX8_pull) := goodIn_app (goodIn_of _ (by decide +kernel)) ggX8_isWithin_X8_pull
set_option maxRecDepth 20000 in
theorem ggX8_isWithin_X8_in : GoodIn wsX8_isWithin wsX8_in := goodIn_r _ [13] (by decide +kernel) (by decide +kernel)
set_option maxRecDepth 20000 in
theorem gX8_isWithin_X8_in : GoodIn wsX8_isWithin (va_wsS RX8 99 yX8_in wsX8_in) := goodIn_app (goodIn_of _ (by decide +kernel)) ggX8_isWithin_X8_in
theorem dX8_isWithin_0 : decode cX8_isWithin 0 = .ok (.aload_n 0, 1) := by decide +kernel
theorem dX8_isWithin_1 : decode cX8_isWithin 1 = .ok (.iload_n 1, 1) := by decide +kernel
theorem dX8_isWithin_2 : decode cX8_isWithin 2 = .ok (.invokevirtual 148, 3) := by decide +kernel
theorem dX8_isWithin_5 : decode cX8_isWithin 5 = .ok (.iload_n 2, 1) := by decide +kernel
theorem dX8_isWithin_6 : decode cX8_isWithin 6 = .ok (.i2l, 1) := by decide +kernel
theorem dX8_isWithin_7 : decode cX8_isWithin 7 = .ok (.aload_n 0, 1) := by decide +kernel
theorem dX8_isWithin_8 : decode cX8_isWithin 8 = .ok (.getfield 124, 3) := by decide +kernel
theorem dX8_isWithin_11 : decode cX8_isWithin 11 = .ok (.lmul, 1) := by decide +kernel
theorem dX8_isWithin_12 : decode cX8_isWithin 12 = .ok (.iload_n 3, 1) := by decide +kernel
theorem dX8_isWithin_13 : decode cX8_isWithin 13 = .ok (.i2l, 1) := by decide +kernel
theorem dX8_isWithin_14 : decode cX8_isWithin 14 = .ok (.aload_n 0, 1) := by decide +kernel
theorem dX8_isWithin_15 : decode cX8_isWithin 15 = .ok (.getfield 124, 3) := by decide +kernel
theorem dX8_isWithin_18 : decode cX8_isWithin 18 = .ok (.lmul, 1) := by decide +kernel
theorem dX8_isWithin_19 : decode cX8_isWithin 19 = .ok (.invokestatic 99, 3) := by decide +kernel
theorem dX8_isWithin_22 : decode cX8_isWithin 22 = .ok (.ireturn, 1) := by decide +kernel
set_option maxRecDepth 20000 in
theorem ggX8_weighed_X8_findLifts : GoodIn wsX8_weighed wsX8_findLifts := goodIn_r _ [10, 1, 11, 2, 12, 13, 14, 9, 15, 16, 17, 18, 19, 20, 5, 21, 22, 23, 24, 25, 26, 27, 28, 29, 30, 31, 32, 33, 34, 35, 36, 37, 38, 39, 51, 52, 53, 54, 55, 56, 57, 58, 59, 60, 61, 62, 63, 64, 65, 66, 67, 68, 69, 70, 71, 72, 73, 74, 75, 76, 77, 78, 79, 80, 81, 82, 83, 84, 85, 86, 87, 88, 89, 90, 91] (by decide +kernel) (by decide +kernel)
set_option maxRecDepth 20000 in
theorem gX8_weighed_X8_findLifts : GoodIn wsX8_weighed (wsV RX8 145 RX8 yX8_findLifts wsX8_findLifts) := goodIn_app (goodIn_of _ (by decide +kernel)) ggX8_weighed_X8_findLifts
set_option maxRecDepth 20000 in
theorem ggX8_weighed_X8_isWithin : GoodIn wsX8_weighed wsX8_isWithin := goodIn_r _ [43, 26, 44, 45, 46, 9, 47, 5, 27, 2, 19, 48, 49, 50, 51, 52, 53, 54, 55, 56, 57, 58, 59, 60, 61, 62, 63, 64, 65, 66, 67, 68, 69, 70, 71, 72, 73, 74, 75, 76, 77, 78, 79, 80, 81, 82, 83, 84, 85, 86, 87, 88, 89, 90, 91] (by decide +kernel) (by decide +kernel)
set_option maxRecDepth 20000 in
theorem gX8_weighed_X8_isWithin : GoodIn wsX8_weighed (wsV RX8 242 RX8 yX8_isWithin wsX8_isWithin) := goodIn_app (goodIn_of _ (by decide +kernel)) ggX8_weighed_X8_isWithin
theorem dX8_weighed_0 : decode cX8_weighed 0 = .ok (.lconst 1, 1) := by decide +kernel
theorem dX8_weighed_1 : decode cX8_weighed 1 = .ok (.lstore 4, 2) := by decide +kernel
theorem dX8_weighed_3 : decode cX8_weighed 3 = .ok (.iload_n 1, 1) := by decide +kernel
theorem dX8_weighed_4 : decode cX8_weighed 4 = .ok (.istore 6, 2) := by decide +kernel
theorem dX8_weighed_6 : decode cX8_weighed 6 = .ok (.iconst 0, 1) := by decide +kernel
theorem dX8_weighed_7 : decode cX8_weighed 7 = .ok (.istore 7, 2) := by decide +kernel
theorem dX8_weighed_9 : decode cX8_weighed 9 = .ok (.iload 7, 2) := by decide +kernel
theorem dX8_weighed_11 : decode cX8_weighed 11 = .ok (.aload_n 0, 1) := by decide +kernel
theorem dX8_weighed_12 : decode cX8_weighed 12 = .ok (.getfield 86, 3) := by decide +kernel
theorem dX8_weighed_15 : decode cX8_weighed 15 = .ok (.if_icmp .ge 76, 3) := by decide +kernel
theorem dX8_weighed_18 : decode cX8_weighed 18 = .ok (.aload_n 0, 1) := by decide +kernel
theorem dX8_weighed_19 : decode cX8_weighed 19 = .ok (.getfield 22, 3) := by decide +kernel
theorem dX8_weighed_22 : decode cX8_weighed 22 = .ok (.iload 7, 2) := by decide +kernel
theorem dX8_weighed_24 : decode cX8_weighed 24 = .ok (.baload, 1) := by decide +kernel
theorem dX8_weighed_25 : decode cX8_weighed 25 = .ok (.ifCond .ne 60, 3) := by decide +kernel
theorem dX8_weighed_28 : decode cX8_weighed 28 = .ok (.iload 6, 2) := by decide +kernel
theorem dX8_weighed_30 : decode cX8_weighed 30 = .ok (.iconst 3, 1) := by decide +kernel
theorem dX8_weighed_31 : decode cX8_weighed 31 = .ok (.irem, 1) := by decide +kernel
theorem dX8_weighed_32 : decode cX8_weighed 32 = .ok (.istore 8, 2) := by decide +kernel
theorem dX8_weighed_34 : decode cX8_weighed 34 = .ok (.iload 6, 2) := by decide +kernel
theorem dX8_weighed_36 : decode cX8_weighed 36 = .ok (.iconst 3, 1) := by decide +kernel
theorem dX8_weighed_37 : decode cX8_weighed 37 = .ok (.idiv, 1) := by decide +kernel
theorem dX8_weighed_38 : decode cX8_weighed 38 = .ok (.istore 6, 2) := by decide +kernel
theorem dX8_weighed_40 : decode cX8_weighed 40 = .ok (.lload 4, 2) := by decide +kernel
theorem dX8_weighed_42 : decode cX8_weighed 42 = .ok (.aload_n 0, 1) := by decide +kernel
theorem dX8_weighed_43 : decode cX8_weighed 43 = .ok (.getfield 32, 3) := by decide +kernel
theorem dX8_weighed_46 : decode cX8_weighed 46 = .ok (.iload 8, 2) := by decide +kernel
theorem dX8_weighed_48 : decode cX8_weighed 48 = .ok (.iaload, 1) := by decide +kernel
theorem dX8_weighed_49 : decode cX8_weighed 49 = .ok (.i2l, 1) := by decide +kernel
theorem dX8_weighed_50 : decode cX8_weighed 50 = .ok (.lmul, 1) := by decide +kernel
theorem dX8_weighed_51 : decode cX8_weighed 51 = .ok (.lstore 4, 2) := by decide +kernel
theorem dX8_weighed_53 : decode cX8_weighed 53 = .ok (.aload_n 0, 1) := by decide +kernel
theorem dX8_weighed_54 : decode cX8_weighed 54 = .ok (.getfield 57, 3) := by decide +kernel
theorem dX8_weighed_57 : decode cX8_weighed 57 = .ok (.iload 7, 2) := by decide +kernel
theorem dX8_weighed_59 : decode cX8_weighed 59 = .ok (.iaload, 1) := by decide +kernel
theorem dX8_weighed_60 : decode cX8_weighed 60 = .ok (.iload 8, 2) := by decide +kernel
theorem dX8_weighed_62 : decode cX8_weighed 62 = .ok (.iadd, 1) := by decide +kernel
theorem dX8_weighed_63 : decode cX8_weighed 63 = .ok (.iconst 1, 1) := by decide +kernel
theorem dX8_weighed_64 : decode cX8_weighed 64 = .ok (.isub, 1) := by decide +kernel
theorem dX8_weighed_65 : decode cX8_weighed 65 = .ok (.istore 9, 2) := by decide +kernel
theorem dX8_weighed_67 : decode cX8_weighed 67 = .ok (.aload_n 0, 1) := by decide +kernel
theorem dX8_weighed_68 : decode cX8_weighed 68 = .ok (.getfield 16, 3) := by decide +kernel
theorem dX8_weighed_71 : decode cX8_weighed 71 = .ok (.iload 7, 2) := by decide +kernel
theorem dX8_weighed_73 : decode cX8_weighed 73 = .ok (.iload 9, 2) := by decide +kernel
theorem dX8_weighed_75 : decode cX8_weighed 75 = .ok (.ifCond .ge 7, 3) := by decide +kernel
theorem dX8_weighed_78 : decode cX8_weighed 78 = .ok (.iconst 0, 1) := by decide +kernel
theorem dX8_weighed_79 : decode cX8_weighed 79 = .ok (.goto 5, 3) := by decide +kernel
theorem dX8_weighed_82 : decode cX8_weighed 82 = .ok (.iload 9, 2) := by decide +kernel
theorem dX8_weighed_84 : decode cX8_weighed 84 = .ok (.iastore, 1) := by decide +kernel
theorem dX8_weighed_85 : decode cX8_weighed 85 = .ok (.iinc 7 1, 3) := by decide +kernel
theorem dX8_weighed_88 : decode cX8_weighed 88 = .ok (.goto (-79), 3) := by decide +kernel
theorem dX8_weighed_91 : decode cX8_weighed 91 = .ok (.lload 4, 2) := by decide +kernel
theorem dX8_weighed_93 : decode cX8_weighed 93 = .ok (.lconst 0, 1) := by decide +kernel
theorem dX8_weighed_94 : decode cX8_weighed 94 = .ok (.lcmp, 1) := by decide +kernel
theorem dX8_weighed_95 : decode cX8_weighed 95 = .ok (.ifCond .ne 5, 3) := by decide +kernel
theorem dX8_weighed_98 : decode cX8_weighed 98 = .ok (.lconst 0, 1) := by decide +kernel
theorem dX8_weighed_99 : decode cX8_weighed 99 = .ok (.lreturn, 1) := by decide +kernel
theorem dX8_weighed_100 : decode cX8_weighed 100 = .ok (.aload_n 0, 1) := by decide +kernel
theorem dX8_weighed_101 : decode cX8_weighed 101 = .ok (.invokevirtual 145, 3) := by decide +kernel
theorem dX8_weighed_104 : decode cX8_weighed 104 = .ok (.iconst 1, 1) := by decide +kernel
theorem dX8_weighed_105 : decode cX8_weighed 105 = .ok (.istore 7, 2) := by decide +kernel
theorem dX8_weighed_107 : decode cX8_weighed 107 = .ok (.iconst 0, 1) := by decide +kernel
theorem dX8_weighed_108 : decode cX8_weighed 108 = .ok (.istore 8, 2) := by decide +kernel
theorem dX8_weighed_110 : decode cX8_weighed 110 = .ok (.iload 8, 2) := by decide +kernel
theorem dX8_weighed_112 : decode cX8_weighed 112 = .ok (.aload_n 0, 1) := by decide +kernel
theorem dX8_weighed_113 : decode cX8_weighed 113 = .ok (.getfield 86, 3) := by decide +kernel
theorem dX8_weighed_116 : decode cX8_weighed 116 = .ok (.if_icmp .ge 42, 3) := by decide +kernel
theorem dX8_weighed_119 : decode cX8_weighed 119 = .ok (.iload 7, 2) := by decide +kernel
theorem dX8_weighed_121 : decode cX8_weighed 121 = .ok (.ifCond .eq 28, 3) := by decide +kernel
theorem dX8_weighed_124 : decode cX8_weighed 124 = .ok (.aload_n 0, 1) := by decide +kernel
theorem dX8_weighed_125 : decode cX8_weighed 125 = .ok (.getfield 22, 3) := by decide +kernel
theorem dX8_weighed_128 : decode cX8_weighed 128 = .ok (.iload 8, 2) := by decide +kernel
theorem dX8_weighed_130 : decode cX8_weighed 130 = .ok (.baload, 1) := by decide +kernel
theorem dX8_weighed_131 : decode cX8_weighed 131 = .ok (.ifCond .ne 14, 3) := by decide +kernel
theorem dX8_weighed_134 : decode cX8_weighed 134 = .ok (.aload_n 0, 1) := by decide +kernel
theorem dX8_weighed_135 : decode cX8_weighed 135 = .ok (.iload 8, 2) := by decide +kernel
theorem dX8_weighed_137 : decode cX8_weighed 137 = .ok (.iload_n 2, 1) := by decide +kernel
theorem dX8_weighed_138 : decode cX8_weighed 138 = .ok (.iload_n 3, 1) := by decide +kernel
theorem dX8_weighed_139 : decode cX8_weighed 139 = .ok (.invokevirtual 242, 3) := by decide +kernel
theorem dX8_weighed_142 : decode cX8_weighed 142 = .ok (.ifCond .eq 7, 3) := by decide +kernel
theorem dX8_weighed_145 : decode cX8_weighed 145 = .ok (.iconst 1, 1) := by decide +kernel
theorem dX8_weighed_146 : decode cX8_weighed 146 = .ok (.goto 4, 3) := by decide +kernel
theorem dX8_weighed_149 : decode cX8_weighed 149 = .ok (.iconst 0, 1) := by decide +kernel
theorem dX8_weighed_150 : decode cX8_weighed 150 = .ok (.istore 7, 2) := by decide +kernel
theorem dX8_weighed_152 : decode cX8_weighed 152 = .ok (.iinc 8 1, 3) := by decide +kernel
theorem dX8_weighed_155 : decode cX8_weighed 155 = .ok (.goto (-45), 3) := by decide +kernel
theorem dX8_weighed_158 : decode cX8_weighed 158 = .ok (.iload 7, 2) := by decide +kernel
theorem dX8_weighed_160 : decode cX8_weighed 160 = .ok (.ifCond .eq 8, 3) := by decide +kernel
theorem dX8_weighed_163 : decode cX8_weighed 163 = .ok (.lload 4, 2) := by decide +kernel
theorem dX8_weighed_165 : decode cX8_weighed 165 = .ok (.goto 4, 3) := by decide +kernel
theorem dX8_weighed_168 : decode cX8_weighed 168 = .ok (.lconst 0, 1) := by decide +kernel
theorem dX8_weighed_169 : decode cX8_weighed 169 = .ok (.lreturn, 1) := by decide +kernel
set_option maxRecDepth 20000 in
theorem ggX8_chance_X8_in : GoodIn wsX8_chance wsX8_in := goodIn_r _ [6] (by decide +kernel) (by decide +kernel)
set_option maxRecDepth 20000 in
theorem gX8_chance_X8_in : GoodIn wsX8_chance (va_wsS RX8 99 yX8_in wsX8_in) := goodIn_app (goodIn_of _ (by decide +kernel)) ggX8_chance_X8_in
set_option maxRecDepth 20000 in
theorem ggX8_chance_X8_keep : GoodIn wsX8_chance wsX8_keep := goodIn_r _ [10, 11, 12, 13, 74, 75, 76, 77, 78, 79, 80, 81, 82, 83, 84, 85, 86, 87, 88, 89, 90, 91, 92, 93, 94, 95, 96, 97, 98, 99, 100, 101, 102, 103, 104, 105, 106, 107, 108, 109, 110, 111, 112, 113, 114] (by decide +kernel) (by decide +kernel)
set_option maxRecDepth 20000 in
theorem gX8_chance_X8_keep : GoodIn wsX8_chance (wsV RX8 194 RX8 yX8_keep wsX8_keep) := goodIn_app (goodIn_of _ (by decide +kernel)) ggX8_chance_X8_keep
set_option maxRecDepth 20000 in
theorem ggX8_chance_X8_whole : GoodIn wsX8_chance wsX8_whole := goodIn_r _ [17, 11, 18, 19, 20, 5, 21, 74, 75, 76, 77, 78, 79, 80, 81, 82, 83, 84, 85, 86, 87, 88, 89, 90, 91, 92, 93, 94, 95, 96, 97, 98, 99, 100, 101, 102, 103, 104, 105, 106, 107, 108, 109, 110, 111, 112, 113, 114] (by decide +kernel) (by decide +kernel)
set_option maxRecDepth 20000 in
theorem gX8_chance_X8_whole : GoodIn wsX8_chance (wsV RX8 117 RX8 yX8_whole wsX8_whole) := goodIn_app (goodIn_of _ (by decide +kernel)) ggX8_chance_X8_whole
set_option maxRecDepth 20000 in
theorem ggX8_chance_X8_weighed : GoodIn wsX8_chance wsX8_weighed := goodIn_r _ [25, 11, 18, 2, 12, 13, 26, 27, 28, 5, 29, 30, 31, 32, 33, 34, 35, 36, 37, 38, 39, 40, 41, 42, 43, 44, 45, 46, 47, 48, 49, 50, 51, 52, 53, 54, 55, 56, 57, 58, 59, 60, 61, 62, 63, 64, 65, 66, 3, 4, 6, 74, 75, 76, 77, 78, 79, 80, 81, 82, 83, 84, 85, 86, 87, 88, 89, 90, 91, 92, 93, 94, 95, 96, 97, 98, 99, 100, 101, 102, 103, 104, 105, 106, 107, 108, 109, 110, 111, 112, 113, 114] (by decide +kernel) (by decide +kernel)
set_option maxRecDepth 20000 in
theorem gX8_chance_X8_weighed : GoodIn wsX8_chance (wsV RX8 246 RX8 yX8_weighed wsX8_weighed) := goodIn_app (goodIn_of _ (by decide +kernel)) ggX8_chance_X8_weighed
set_option maxRecDepth 20000 in
theorem ggX8_chance_X8_back : GoodIn wsX8_chance wsX8_back := goodIn_r _ [70, 11, 13, 12, 74, 75, 76, 77, 78, 79, 80, 81, 82, 83, 84, 85, 86, 87, 88, 89, 90, 91, 92, 93, 94, 95, 96, 97, 98, 99, 100, 101, 102, 103, 104, 105, 106, 107, 108, 109, 110, 111, 112, 113, 114] (by decide +kernel) (by decide +kernel)
set_option maxRecDepth 20000 in
theorem gX8_chance_X8_back : GoodIn wsX8_chance (wsV RX8 200 RX8 yX8_back wsX8_back) := goodIn_app (goodIn_of _ (by decide +kernel)) ggX8_chance_X8_back
set_option maxRecDepth 20000 in
theorem ggX8_chance_X8_gcd : GoodIn wsX8_chance wsX8_gcd := goodIn_r _ [73] (by decide +kernel) (by decide +kernel)
set_option maxRecDepth 20000 in
theorem gX8_chance_X8_gcd : GoodIn wsX8_chance (va_wsS RX8 159 yX8_gcd wsX8_gcd) := goodIn_app (goodIn_of _ (by decide +kernel)) ggX8_chance_X8_gcd
theorem dX8_chance_0 : decode cX8_chance 0 = .ok (.iload_n 1, 1) := by decide +kernel
theorem dX8_chance_1 : decode cX8_chance 1 = .ok (.i2l, 1) := by decide +kernel
theorem dX8_chance_2 : decode cX8_chance 2 = .ok (.lconst 0, 1) := by decide +kernel
theorem dX8_chance_3 : decode cX8_chance 3 = .ok (.iload_n 2, 1) := by decide +kernel
theorem dX8_chance_4 : decode cX8_chance 4 = .ok (.i2l, 1) := by decide +kernel
theorem dX8_chance_5 : decode cX8_chance 5 = .ok (.invokestatic 99, 3) := by decide +kernel
theorem dX8_chance_8 : decode cX8_chance 8 = .ok (.ifCond .eq 20, 3) := by decide +kernel
theorem dX8_chance_11 : decode cX8_chance 11 = .ok (.iload_n 2, 1) := by decide +kernel
theorem dX8_chance_12 : decode cX8_chance 12 = .ok (.sipush 2000, 3) := by decide +kernel
theorem dX8_chance_15 : decode cX8_chance 15 = .ok (.if_icmp .gt 13, 3) := by decide +kernel
theorem dX8_chance_18 : decode cX8_chance 18 = .ok (.iload_n 3, 1) := by decide +kernel
theorem dX8_chance_19 : decode cX8_chance 19 = .ok (.i2l, 1) := by decide +kernel
theorem dX8_chance_20 : decode cX8_chance 20 = .ok (.lconst 0, 1) := by decide +kernel
theorem dX8_chance_21 : decode cX8_chance 21 = .ok (.lconst 1, 1) := by decide +kernel
theorem dX8_chance_22 : decode cX8_chance 22 = .ok (.invokestatic 99, 3) := by decide +kernel
theorem dX8_chance_25 : decode cX8_chance 25 = .ok (.ifCond .ne 7, 3) := by decide +kernel
theorem dX8_chance_28 : decode cX8_chance 28 = .ok (.ldc2_w 157, 3) := by decide +kernel
theorem dX8_chance_31 : decode cX8_chance 31 = .ok (.lreturn, 1) := by decide +kernel
theorem dX8_chance_32 : decode cX8_chance 32 = .ok (.aload_n 0, 1) := by decide +kernel
theorem dX8_chance_33 : decode cX8_chance 33 = .ok (.invokevirtual 194, 3) := by decide +kernel
theorem dX8_chance_36 : decode cX8_chance 36 = .ok (.iconst 1, 1) := by decide +kernel
theorem dX8_chance_37 : decode cX8_chance 37 = .ok (.istore 4, 2) := by decide +kernel
theorem dX8_chance_39 : decode cX8_chance 39 = .ok (.lconst 1, 1) := by decide +kernel
theorem dX8_chance_40 : decode cX8_chance 40 = .ok (.lstore 5, 2) := by decide +kernel
theorem dX8_chance_42 : decode cX8_chance 42 = .ok (.iconst 0, 1) := by decide +kernel
theorem dX8_chance_43 : decode cX8_chance 43 = .ok (.istore 7, 2) := by decide +kernel
theorem dX8_chance_45 : decode cX8_chance 45 = .ok (.iload 7, 2) := by decide +kernel
theorem dX8_chance_47 : decode cX8_chance 47 = .ok (.aload_n 0, 1) := by decide +kernel
theorem dX8_chance_48 : decode cX8_chance 48 = .ok (.invokevirtual 117, 3) := by decide +kernel
theorem dX8_chance_51 : decode cX8_chance 51 = .ok (.if_icmp .ge 41, 3) := by decide +kernel
theorem dX8_chance_54 : decode cX8_chance 54 = .ok (.iload 4, 2) := by decide +kernel
theorem dX8_chance_56 : decode cX8_chance 56 = .ok (.iconst 3, 1) := by decide +kernel
theorem dX8_chance_57 : decode cX8_chance 57 = .ok (.imul, 1) := by decide +kernel
theorem dX8_chance_58 : decode cX8_chance 58 = .ok (.istore 4, 2) := by decide +kernel
theorem dX8_chance_60 : decode cX8_chance 60 = .ok (.lload 5, 2) := by decide +kernel
theorem dX8_chance_62 : decode cX8_chance 62 = .ok (.aload_n 0, 1) := by decide +kernel
theorem dX8_chance_63 : decode cX8_chance 63 = .ok (.getfield 32, 3) := by decide +kernel
theorem dX8_chance_66 : decode cX8_chance 66 = .ok (.iconst 0, 1) := by decide +kernel
theorem dX8_chance_67 : decode cX8_chance 67 = .ok (.iaload, 1) := by decide +kernel
theorem dX8_chance_68 : decode cX8_chance 68 = .ok (.aload_n 0, 1) := by decide +kernel
theorem dX8_chance_69 : decode cX8_chance 69 = .ok (.getfield 32, 3) := by decide +kernel
theorem dX8_chance_72 : decode cX8_chance 72 = .ok (.iconst 1, 1) := by decide +kernel
theorem dX8_chance_73 : decode cX8_chance 73 = .ok (.iaload, 1) := by decide +kernel
theorem dX8_chance_74 : decode cX8_chance 74 = .ok (.iadd, 1) := by decide +kernel
theorem dX8_chance_75 : decode cX8_chance 75 = .ok (.aload_n 0, 1) := by decide +kernel
theorem dX8_chance_76 : decode cX8_chance 76 = .ok (.getfield 32, 3) := by decide +kernel
theorem dX8_chance_79 : decode cX8_chance 79 = .ok (.iconst 2, 1) := by decide +kernel
theorem dX8_chance_80 : decode cX8_chance 80 = .ok (.iaload, 1) := by decide +kernel
theorem dX8_chance_81 : decode cX8_chance 81 = .ok (.iadd, 1) := by decide +kernel
theorem dX8_chance_82 : decode cX8_chance 82 = .ok (.i2l, 1) := by decide +kernel
theorem dX8_chance_83 : decode cX8_chance 83 = .ok (.lmul, 1) := by decide +kernel
theorem dX8_chance_84 : decode cX8_chance 84 = .ok (.lstore 5, 2) := by decide +kernel
theorem dX8_chance_86 : decode cX8_chance 86 = .ok (.iinc 7 1, 3) := by decide +kernel
theorem dX8_chance_89 : decode cX8_chance 89 = .ok (.goto (-44), 3) := by decide +kernel
theorem dX8_chance_92 : decode cX8_chance 92 = .ok (.lconst 0, 1) := by decide +kernel
theorem dX8_chance_93 : decode cX8_chance 93 = .ok (.lstore 7, 2) := by decide +kernel
theorem dX8_chance_95 : decode cX8_chance 95 = .ok (.iconst 0, 1) := by decide +kernel
theorem dX8_chance_96 : decode cX8_chance 96 = .ok (.istore 9, 2) := by decide +kernel
theorem dX8_chance_98 : decode cX8_chance 98 = .ok (.iload 9, 2) := by decide +kernel
theorem dX8_chance_100 : decode cX8_chance 100 = .ok (.iload 4, 2) := by decide +kernel
theorem dX8_chance_102 : decode cX8_chance 102 = .ok (.if_icmp .ge 22, 3) := by decide +kernel
theorem dX8_chance_105 : decode cX8_chance 105 = .ok (.lload 7, 2) := by decide +kernel
theorem dX8_chance_107 : decode cX8_chance 107 = .ok (.aload_n 0, 1) := by decide +kernel
theorem dX8_chance_108 : decode cX8_chance 108 = .ok (.iload 9, 2) := by decide +kernel
theorem dX8_chance_110 : decode cX8_chance 110 = .ok (.iload_n 1, 1) := by decide +kernel
theorem dX8_chance_111 : decode cX8_chance 111 = .ok (.iload_n 2, 1) := by decide +kernel
theorem dX8_chance_112 : decode cX8_chance 112 = .ok (.invokevirtual 246, 3) := by decide +kernel
theorem dX8_chance_115 : decode cX8_chance 115 = .ok (.ladd, 1) := by decide +kernel
theorem dX8_chance_116 : decode cX8_chance 116 = .ok (.lstore 7, 2) := by decide +kernel
theorem dX8_chance_118 : decode cX8_chance 118 = .ok (.iinc 9 1, 3) := by decide +kernel
theorem dX8_chance_121 : decode cX8_chance 121 = .ok (.goto (-23), 3) := by decide +kernel
theorem dX8_chance_124 : decode cX8_chance 124 = .ok (.aload_n 0, 1) := by decide +kernel
theorem dX8_chance_125 : decode cX8_chance 125 = .ok (.invokevirtual 200, 3) := by decide +kernel
theorem dX8_chance_128 : decode cX8_chance 128 = .ok (.lload 7, 2) := by decide +kernel
theorem dX8_chance_130 : decode cX8_chance 130 = .ok (.lload 5, 2) := by decide +kernel
theorem dX8_chance_132 : decode cX8_chance 132 = .ok (.invokestatic 159, 3) := by decide +kernel
theorem dX8_chance_135 : decode cX8_chance 135 = .ok (.lstore 9, 2) := by decide +kernel
theorem dX8_chance_137 : decode cX8_chance 137 = .ok (.iload_n 3, 1) := by decide +kernel
theorem dX8_chance_138 : decode cX8_chance 138 = .ok (.ifCond .ne 11, 3) := by decide +kernel
theorem dX8_chance_141 : decode cX8_chance 141 = .ok (.lload 7, 2) := by decide +kernel
theorem dX8_chance_143 : decode cX8_chance 143 = .ok (.lload 9, 2) := by decide +kernel
theorem dX8_chance_145 : decode cX8_chance 145 = .ok (.ldiv, 1) := by decide +kernel
theorem dX8_chance_146 : decode cX8_chance 146 = .ok (.goto 8, 3) := by decide +kernel
theorem dX8_chance_149 : decode cX8_chance 149 = .ok (.lload 5, 2) := by decide +kernel
theorem dX8_chance_151 : decode cX8_chance 151 = .ok (.lload 9, 2) := by decide +kernel
theorem dX8_chance_153 : decode cX8_chance 153 = .ok (.ldiv, 1) := by decide +kernel
theorem dX8_chance_154 : decode cX8_chance 154 = .ok (.lreturn, 1) := by decide +kernel
set_option maxRecDepth 20000 in
theorem ggX8_reading_X8_noBolt : GoodIn wsX8_reading wsX8_noBolt := goodIn_r _ [10, 11, 12, 13, 9, 14, 72, 73, 74, 75, 76, 77, 78, 79, 80, 81, 82, 83, 84, 85, 86, 87, 88, 89, 90, 91, 92, 93, 94, 95, 96, 97, 98, 99, 100, 101, 102, 103, 104, 105, 106, 107, 108, 109, 110, 111, 112] (by decide +kernel) (by decide +kernel)
set_option maxRecDepth 20000 in
theorem gX8_reading_X8_noBolt : GoodIn wsX8_reading (wsV RX8 106 RX8 yX8_noBolt wsX8_noBolt) := goodIn_app (goodIn_of _ (by decide +kernel)) ggX8_reading_X8_noBolt
set_option maxRecDepth 20000 in
theorem ggX8_reading_X8_in : GoodIn wsX8_reading wsX8_in := goodIn_r _ [14] (by decide +kernel) (by decide +kernel)
set_option maxRecDepth 20000 in
theorem gX8_reading_X8_in : GoodIn wsX8_reading (va_wsS RX8 99 yX8_in wsX8_in) := goodIn_app (goodIn_of _ (by decide +kernel)) ggX8_reading_X8_in
set_option maxRecDepth 20000 in
theorem ggX8_reading_X8_count : GoodIn wsX8_reading wsX8_count := goodIn_r _ [18, 11, 19, 3, 20, 21, 22, 2, 23, 24, 25, 9, 26, 27, 28, 29, 30, 31, 32, 33, 34, 35, 36, 37, 38, 39, 40, 41, 42, 43, 44, 45, 46, 47, 48, 49, 50, 51, 52, 53, 54, 55, 56, 57, 58, 59, 60, 61, 62, 63, 64, 65, 66, 67, 68, 69, 70, 71, 72, 73, 74, 75, 76, 77, 78, 79, 80, 81, 82, 83, 84, 85, 86, 87, 88, 89, 90, 91, 92, 93, 94, 95, 96, 97, 98, 99, 100, 101, 102, 103, 104, 105, 106, 107, 108, 109, 110, 111, 112] (by decide +kernel) (by decide +kernel)
set_option maxRecDepth 20000 in
theorem gX8_reading_X8_count : GoodIn wsX8_reading (wsV RX8 250 RX8 yX8_count wsX8_count) := goodIn_app (goodIn_of _ (by decide +kernel)) ggX8_reading_X8_count
theorem dX8_reading_0 : decode cX8_reading 0 = .ok (.aload_n 0, 1) := by decide +kernel
theorem dX8_reading_1 : decode cX8_reading 1 = .ok (.iload_n 1, 1) := by decide +kernel
theorem dX8_reading_2 : decode cX8_reading 2 = .ok (.invokevirtual 106, 3) := by decide +kernel
theorem dX8_reading_5 : decode cX8_reading 5 = .ok (.ifCond .eq 6, 3) := by decide +kernel
theorem dX8_reading_8 : decode cX8_reading 8 = .ok (.ldc 110, 2) := by decide +kernel
theorem dX8_reading_10 : decode cX8_reading 10 = .ok (.ireturn, 1) := by decide +kernel
theorem dX8_reading_11 : decode cX8_reading 11 = .ok (.iload_n 2, 1) := by decide +kernel
theorem dX8_reading_12 : decode cX8_reading 12 = .ok (.i2l, 1) := by decide +kernel
theorem dX8_reading_13 : decode cX8_reading 13 = .ok (.lconst 0, 1) := by decide +kernel
theorem dX8_reading_14 : decode cX8_reading 14 = .ok (.iload_n 3, 1) := by decide +kernel
theorem dX8_reading_15 : decode cX8_reading 15 = .ok (.i2l, 1) := by decide +kernel
theorem dX8_reading_16 : decode cX8_reading 16 = .ok (.invokestatic 99, 3) := by decide +kernel
theorem dX8_reading_19 : decode cX8_reading 19 = .ok (.ifCond .eq 10, 3) := by decide +kernel
theorem dX8_reading_22 : decode cX8_reading 22 = .ok (.iload_n 3, 1) := by decide +kernel
theorem dX8_reading_23 : decode cX8_reading 23 = .ok (.sipush 2000, 3) := by decide +kernel
theorem dX8_reading_26 : decode cX8_reading 26 = .ok (.if_icmp .le 6, 3) := by decide +kernel
theorem dX8_reading_29 : decode cX8_reading 29 = .ok (.ldc 105, 2) := by decide +kernel
theorem dX8_reading_31 : decode cX8_reading 31 = .ok (.ireturn, 1) := by decide +kernel
theorem dX8_reading_32 : decode cX8_reading 32 = .ok (.aload_n 0, 1) := by decide +kernel
theorem dX8_reading_33 : decode cX8_reading 33 = .ok (.getfield 35, 3) := by decide +kernel
theorem dX8_reading_36 : decode cX8_reading 36 = .ok (.iload_n 1, 1) := by decide +kernel
theorem dX8_reading_37 : decode cX8_reading 37 = .ok (.iconst 1, 1) := by decide +kernel
theorem dX8_reading_38 : decode cX8_reading 38 = .ok (.bastore, 1) := by decide +kernel
theorem dX8_reading_39 : decode cX8_reading 39 = .ok (.aload_n 0, 1) := by decide +kernel
theorem dX8_reading_40 : decode cX8_reading 40 = .ok (.getfield 38, 3) := by decide +kernel
theorem dX8_reading_43 : decode cX8_reading 43 = .ok (.iload_n 1, 1) := by decide +kernel
theorem dX8_reading_44 : decode cX8_reading 44 = .ok (.iload_n 2, 1) := by decide +kernel
theorem dX8_reading_45 : decode cX8_reading 45 = .ok (.iastore, 1) := by decide +kernel
theorem dX8_reading_46 : decode cX8_reading 46 = .ok (.aload_n 0, 1) := by decide +kernel
theorem dX8_reading_47 : decode cX8_reading 47 = .ok (.getfield 41, 3) := by decide +kernel
theorem dX8_reading_50 : decode cX8_reading 50 = .ok (.iload_n 1, 1) := by decide +kernel
theorem dX8_reading_51 : decode cX8_reading 51 = .ok (.iload_n 3, 1) := by decide +kernel
theorem dX8_reading_52 : decode cX8_reading 52 = .ok (.iastore, 1) := by decide +kernel
theorem dX8_reading_53 : decode cX8_reading 53 = .ok (.aload_n 0, 1) := by decide +kernel
theorem dX8_reading_54 : decode cX8_reading 54 = .ok (.bipush 6, 2) := by decide +kernel
theorem dX8_reading_56 : decode cX8_reading 56 = .ok (.invokevirtual 250, 3) := by decide +kernel
theorem dX8_reading_59 : decode cX8_reading 59 = .ok (.ireturn, 1) := by decide +kernel
set_option maxRecDepth 20000 in
theorem ggX8_forget_X8_count : GoodIn wsX8_forget wsX8_count := goodIn_r _ [7, 1, 8, 2, 9, 10, 11, 12, 13, 14, 15, 6, 16, 17, 18, 19, 20, 21, 22, 23, 24, 25, 26, 27, 28, 29, 30, 31, 32, 33, 34, 35, 36, 37, 38, 39, 40, 41, 42, 43, 44, 45, 46, 47, 48, 49, 50, 51, 52, 53, 54, 55, 56, 57, 58, 59, 60, 61, 62, 63, 64, 65, 66, 67, 68, 69, 70, 71, 72, 73, 74, 75, 76, 77, 78, 79, 80, 81, 82, 83, 84, 85, 86, 87, 88, 89, 90, 91, 92, 93, 94, 95, 96, 97, 98, 99, 100, 101, 102] (by decide +kernel) (by decide +kernel)
set_option maxRecDepth 20000 in
theorem gX8_forget_X8_count : GoodIn wsX8_forget (wsV RX8 250 RX8 yX8_count wsX8_count) := goodIn_app (goodIn_of _ (by decide +kernel)) ggX8_forget_X8_count
theorem dX8_forget_0 : decode cX8_forget 0 = .ok (.aload_n 0, 1) := by decide +kernel
theorem dX8_forget_1 : decode cX8_forget 1 = .ok (.bipush 6, 2) := by decide +kernel
theorem dX8_forget_3 : decode cX8_forget 3 = .ok (.invokevirtual 250, 3) := by decide +kernel
theorem dX8_forget_6 : decode cX8_forget 6 = .ok (.istore_n 1, 1) := by decide +kernel
theorem dX8_forget_7 : decode cX8_forget 7 = .ok (.iconst 0, 1) := by decide +kernel
theorem dX8_forget_8 : decode cX8_forget 8 = .ok (.istore_n 2, 1) := by decide +kernel
theorem dX8_forget_9 : decode cX8_forget 9 = .ok (.iload_n 2, 1) := by decide +kernel
theorem dX8_forget_10 : decode cX8_forget 10 = .ok (.aload_n 0, 1) := by decide +kernel
theorem dX8_forget_11 : decode cX8_forget 11 = .ok (.getfield 86, 3) := by decide +kernel
theorem dX8_forget_14 : decode cX8_forget 14 = .ok (.if_icmp .ge 16, 3) := by decide +kernel
theorem dX8_forget_17 : decode cX8_forget 17 = .ok (.aload_n 0, 1) := by decide +kernel
theorem dX8_forget_18 : decode cX8_forget 18 = .ok (.getfield 35, 3) := by decide +kernel
theorem dX8_forget_21 : decode cX8_forget 21 = .ok (.iload_n 2, 1) := by decide +kernel
theorem dX8_forget_22 : decode cX8_forget 22 = .ok (.iconst 0, 1) := by decide +kernel
theorem dX8_forget_23 : decode cX8_forget 23 = .ok (.bastore, 1) := by decide +kernel
theorem dX8_forget_24 : decode cX8_forget 24 = .ok (.iinc 2 1, 3) := by decide +kernel
theorem dX8_forget_27 : decode cX8_forget 27 = .ok (.goto (-18), 3) := by decide +kernel
theorem dX8_forget_30 : decode cX8_forget 30 = .ok (.iload_n 1, 1) := by decide +kernel
theorem dX8_forget_31 : decode cX8_forget 31 = .ok (.ireturn, 1) := by decide +kernel
set_option maxRecDepth 20000 in
theorem ggX8_isFit_X8_findLifts : GoodIn wsX8_isFit wsX8_findLifts := goodIn_r _ [9, 1, 10, 11, 12, 13, 14, 8, 15, 16, 17, 18, 19, 20, 21, 22, 23, 24, 25, 26, 27, 28, 29, 30, 31, 32, 33, 34, 35, 36, 37, 38, 39, 40, 52, 53, 54, 55, 56, 57, 58, 59, 60, 61, 62, 63, 64, 65, 66, 67, 68, 69, 70, 71, 72, 73, 74, 75, 76, 77, 78, 79, 80, 81, 82, 83, 84, 85, 86, 87, 88, 89, 90, 91, 92] (by decide +kernel) (by decide +kernel)
set_option maxRecDepth 20000 in
theorem gX8_isFit_X8_findLifts : GoodIn wsX8_isFit (wsV RX8 145 RX8 yX8_findLifts wsX8_findLifts) := goodIn_app (goodIn_of _ (by decide +kernel)) ggX8_isFit_X8_findLifts
set_option maxRecDepth 20000 in
theorem ggX8_isFit_X8_isWithin : GoodIn wsX8_isFit wsX8_isWithin := goodIn_r _ [44, 27, 45, 46, 47, 8, 48, 21, 28, 11, 19, 49, 50, 51, 52, 53, 54, 55, 56, 57, 58, 59, 60, 61, 62, 63, 64, 65, 66, 67, 68, 69, 70, 71, 72, 73, 74, 75, 76, 77, 78, 79, 80, 81, 82, 83, 84, 85, 86, 87, 88, 89, 90, 91, 92] (by decide +kernel) (by decide +kernel)
set_option maxRecDepth 20000 in
theorem gX8_isFit_X8_isWithin : GoodIn wsX8_isFit (wsV RX8 242 RX8 yX8_isWithin wsX8_isWithin) := goodIn_app (goodIn_of _ (by decide +kernel)) ggX8_isFit_X8_isWithin
theorem dX8_isFit_0 : decode cX8_isFit 0 = .ok (.aload_n 0, 1) := by decide +kernel
theorem dX8_isFit_1 : decode cX8_isFit 1 = .ok (.invokevirtual 145, 3) := by decide +kernel
theorem dX8_isFit_4 : decode cX8_isFit 4 = .ok (.iconst 1, 1) := by decide +kernel
theorem dX8_isFit_5 : decode cX8_isFit 5 = .ok (.istore_n 1, 1) := by decide +kernel
theorem dX8_isFit_6 : decode cX8_isFit 6 = .ok (.iconst 0, 1) := by decide +kernel
theorem dX8_isFit_7 : decode cX8_isFit 7 = .ok (.istore_n 2, 1) := by decide +kernel
theorem dX8_isFit_8 : decode cX8_isFit 8 = .ok (.iload_n 2, 1) := by decide +kernel
theorem dX8_isFit_9 : decode cX8_isFit 9 = .ok (.aload_n 0, 1) := by decide +kernel
theorem dX8_isFit_10 : decode cX8_isFit 10 = .ok (.getfield 86, 3) := by decide +kernel
theorem dX8_isFit_13 : decode cX8_isFit 13 = .ok (.if_icmp .ge 48, 3) := by decide +kernel
theorem dX8_isFit_16 : decode cX8_isFit 16 = .ok (.iload_n 1, 1) := by decide +kernel
theorem dX8_isFit_17 : decode cX8_isFit 17 = .ok (.ifCond .eq 36, 3) := by decide +kernel
theorem dX8_isFit_20 : decode cX8_isFit 20 = .ok (.aload_n 0, 1) := by decide +kernel
theorem dX8_isFit_21 : decode cX8_isFit 21 = .ok (.getfield 35, 3) := by decide +kernel
theorem dX8_isFit_24 : decode cX8_isFit 24 = .ok (.iload_n 2, 1) := by decide +kernel
theorem dX8_isFit_25 : decode cX8_isFit 25 = .ok (.baload, 1) := by decide +kernel
theorem dX8_isFit_26 : decode cX8_isFit 26 = .ok (.ifCond .eq 23, 3) := by decide +kernel
theorem dX8_isFit_29 : decode cX8_isFit 29 = .ok (.aload_n 0, 1) := by decide +kernel
theorem dX8_isFit_30 : decode cX8_isFit 30 = .ok (.iload_n 2, 1) := by decide +kernel
theorem dX8_isFit_31 : decode cX8_isFit 31 = .ok (.aload_n 0, 1) := by decide +kernel
theorem dX8_isFit_32 : decode cX8_isFit 32 = .ok (.getfield 38, 3) := by decide +kernel
theorem dX8_isFit_35 : decode cX8_isFit 35 = .ok (.iload_n 2, 1) := by decide +kernel
theorem dX8_isFit_36 : decode cX8_isFit 36 = .ok (.iaload, 1) := by decide +kernel
theorem dX8_isFit_37 : decode cX8_isFit 37 = .ok (.aload_n 0, 1) := by decide +kernel
theorem dX8_isFit_38 : decode cX8_isFit 38 = .ok (.getfield 41, 3) := by decide +kernel
theorem dX8_isFit_41 : decode cX8_isFit 41 = .ok (.iload_n 2, 1) := by decide +kernel
theorem dX8_isFit_42 : decode cX8_isFit 42 = .ok (.iaload, 1) := by decide +kernel
theorem dX8_isFit_43 : decode cX8_isFit 43 = .ok (.invokevirtual 242, 3) := by decide +kernel
theorem dX8_isFit_46 : decode cX8_isFit 46 = .ok (.ifCond .eq 7, 3) := by decide +kernel
theorem dX8_isFit_49 : decode cX8_isFit 49 = .ok (.iconst 1, 1) := by decide +kernel
theorem dX8_isFit_50 : decode cX8_isFit 50 = .ok (.goto 4, 3) := by decide +kernel
theorem dX8_isFit_53 : decode cX8_isFit 53 = .ok (.iconst 0, 1) := by decide +kernel
theorem dX8_isFit_54 : decode cX8_isFit 54 = .ok (.istore_n 1, 1) := by decide +kernel
theorem dX8_isFit_55 : decode cX8_isFit 55 = .ok (.iinc 2 1, 3) := by decide +kernel
theorem dX8_isFit_58 : decode cX8_isFit 58 = .ok (.goto (-50), 3) := by decide +kernel
theorem dX8_isFit_61 : decode cX8_isFit 61 = .ok (.iload_n 1, 1) := by decide +kernel
theorem dX8_isFit_62 : decode cX8_isFit 62 = .ok (.ireturn, 1) := by decide +kernel
set_option maxRecDepth 20000 in
theorem ggX8_fit_X8_isFit : GoodIn wsX8_fit wsX8_isFit := goodIn_r _ [5, 6, 7, 8, 9, 10, 11, 12, 4, 13, 14, 15, 16, 17, 18, 19, 20, 21, 22, 23, 24, 25, 26, 27, 28, 29, 30, 31, 32, 33, 34, 35, 36, 37, 38, 39, 40, 41, 42, 43, 44, 45, 46, 47, 48, 49, 50, 51, 52, 53, 54, 55, 59, 60, 61, 62, 63, 64, 65, 66, 67, 68, 69, 70, 71, 72, 73, 74, 75, 76, 77, 78, 79, 80, 81, 82, 83, 84, 85, 86, 87, 88, 89, 90, 91, 92, 93, 94, 95, 96, 97, 98, 99] (by decide +kernel) (by decide +kernel)
set_option maxRecDepth 20000 in
theorem gX8_fit_X8_isFit : GoodIn wsX8_fit (wsV RX8 253 RX8 yX8_isFit wsX8_isFit) := goodIn_app (goodIn_of _ (by decide +kernel)) ggX8_fit_X8_isFit
set_option maxRecDepth 20000 in
theorem ggX8_fit_X8_bit : GoodIn wsX8_fit wsX8_bit := goodIn_r _ [58] (by decide +kernel) (by decide +kernel)
set_option maxRecDepth 20000 in
theorem gX8_fit_X8_bit : GoodIn wsX8_fit (va_wsS RX8 113 yX8_bit wsX8_bit) := goodIn_app (goodIn_of _ (by decide +kernel)) ggX8_fit_X8_bit
theorem dX8_fit_0 : decode cX8_fit 0 = .ok (.aload_n 0, 1) := by decide +kernel
theorem dX8_fit_1 : decode cX8_fit 1 = .ok (.invokevirtual 253, 3) := by decide +kernel
theorem dX8_fit_4 : decode cX8_fit 4 = .ok (.invokestatic 113, 3) := by decide +kernel
theorem dX8_fit_7 : decode cX8_fit 7 = .ok (.ireturn, 1) := by decide +kernel
set_option maxRecDepth 20000 in
theorem ggX8_suspect_X8_in : GoodIn wsX8_suspect wsX8_in := goodIn_r _ [8] (by decide +kernel) (by decide +kernel)
set_option maxRecDepth 20000 in
theorem gX8_suspect_X8_in : GoodIn wsX8_suspect (va_wsS RX8 99 yX8_in wsX8_in) := goodIn_app (goodIn_of _ (by decide +kernel)) ggX8_suspect_X8_in
set_option maxRecDepth 20000 in
theorem ggX8_suspect_X8_isFit : GoodIn wsX8_suspect wsX8_isFit := goodIn_r _ [12, 1, 13, 14, 15, 16, 17, 18, 7, 19, 20, 3, 21, 22, 23, 24, 25, 26, 27, 28, 29, 2, 30, 31, 32, 33, 34, 35, 36, 37, 38, 39, 40, 41, 42, 43, 44, 45, 46, 47, 48, 49, 50, 51, 52, 53, 54, 55, 56, 5, 6, 8, 57, 58, 59, 60, 61, 62, 63, 64, 65, 66, 67, 68, 69, 70, 71, 72, 73, 74, 75, 76, 77, 78, 79, 80, 81, 82, 83, 84, 85, 86, 87, 88, 89, 90, 91, 92, 93, 94, 95, 96, 97] (by decide +kernel) (by decide +kernel)
set_option maxRecDepth 20000 in
theorem gX8_suspect_X8_isFit : GoodIn wsX8_suspect (wsV RX8 253 RX8 yX8_isFit wsX8_isFit) := goodIn_app (goodIn_of _ (by decide +kernel)) ggX8_suspect_X8_isFit
theorem dX8_suspect_0 : decode cX8_suspect 0 = .ok (.iconst 0, 1) := by decide +kernel
theorem dX8_suspect_1 : decode cX8_suspect 1 = .ok (.istore_n 2, 1) := by decide +kernel
theorem dX8_suspect_2 : decode cX8_suspect 2 = .ok (.iconst (-1), 1) := by decide +kernel
theorem dX8_suspect_3 : decode cX8_suspect 3 = .ok (.istore_n 3, 1) := by decide +kernel
theorem dX8_suspect_4 : decode cX8_suspect 4 = .ok (.iconst 0, 1) := by decide +kernel
theorem dX8_suspect_5 : decode cX8_suspect 5 = .ok (.istore 4, 2) := by decide +kernel
theorem dX8_suspect_7 : decode cX8_suspect 7 = .ok (.iload 4, 2) := by decide +kernel
theorem dX8_suspect_9 : decode cX8_suspect 9 = .ok (.aload_n 0, 1) := by decide +kernel
theorem dX8_suspect_10 : decode cX8_suspect 10 = .ok (.getfield 86, 3) := by decide +kernel
theorem dX8_suspect_13 : decode cX8_suspect 13 = .ok (.if_icmp .ge 116, 3) := by decide +kernel
theorem dX8_suspect_16 : decode cX8_suspect 16 = .ok (.aload_n 0, 1) := by decide +kernel
theorem dX8_suspect_17 : decode cX8_suspect 17 = .ok (.getfield 16, 3) := by decide +kernel
theorem dX8_suspect_20 : decode cX8_suspect 20 = .ok (.iload 4, 2) := by decide +kernel
theorem dX8_suspect_22 : decode cX8_suspect 22 = .ok (.iaload, 1) := by decide +kernel
theorem dX8_suspect_23 : decode cX8_suspect 23 = .ok (.istore 5, 2) := by decide +kernel
theorem dX8_suspect_25 : decode cX8_suspect 25 = .ok (.bipush (-3), 2) := by decide +kernel
theorem dX8_suspect_27 : decode cX8_suspect 27 = .ok (.istore 6, 2) := by decide +kernel
theorem dX8_suspect_29 : decode cX8_suspect 29 = .ok (.iload 6, 2) := by decide +kernel
theorem dX8_suspect_31 : decode cX8_suspect 31 = .ok (.iconst 4, 1) := by decide +kernel
theorem dX8_suspect_32 : decode cX8_suspect 32 = .ok (.if_icmp .ge 82, 3) := by decide +kernel
theorem dX8_suspect_35 : decode cX8_suspect 35 = .ok (.iload 6, 2) := by decide +kernel
theorem dX8_suspect_37 : decode cX8_suspect 37 = .ok (.ifCond .eq 71, 3) := by decide +kernel
theorem dX8_suspect_40 : decode cX8_suspect 40 = .ok (.aload_n 0, 1) := by decide +kernel
theorem dX8_suspect_41 : decode cX8_suspect 41 = .ok (.getfield 22, 3) := by decide +kernel
theorem dX8_suspect_44 : decode cX8_suspect 44 = .ok (.iload 4, 2) := by decide +kernel
theorem dX8_suspect_46 : decode cX8_suspect 46 = .ok (.baload, 1) := by decide +kernel
theorem dX8_suspect_47 : decode cX8_suspect 47 = .ok (.ifCond .ne 61, 3) := by decide +kernel
theorem dX8_suspect_50 : decode cX8_suspect 50 = .ok (.iload 5, 2) := by decide +kernel
theorem dX8_suspect_52 : decode cX8_suspect 52 = .ok (.iload 6, 2) := by decide +kernel
theorem dX8_suspect_54 : decode cX8_suspect 54 = .ok (.iadd, 1) := by decide +kernel
theorem dX8_suspect_55 : decode cX8_suspect 55 = .ok (.i2l, 1) := by decide +kernel
theorem dX8_suspect_56 : decode cX8_suspect 56 = .ok (.lconst 0, 1) := by decide +kernel
theorem dX8_suspect_57 : decode cX8_suspect 57 = .ok (.ldc2_w 111, 3) := by decide +kernel
theorem dX8_suspect_60 : decode cX8_suspect 60 = .ok (.invokestatic 99, 3) := by decide +kernel
theorem dX8_suspect_63 : decode cX8_suspect 63 = .ok (.ifCond .eq 45, 3) := by decide +kernel
theorem dX8_suspect_66 : decode cX8_suspect 66 = .ok (.aload_n 0, 1) := by decide +kernel
theorem dX8_suspect_67 : decode cX8_suspect 67 = .ok (.getfield 16, 3) := by decide +kernel
theorem dX8_suspect_70 : decode cX8_suspect 70 = .ok (.iload 4, 2) := by decide +kernel
theorem dX8_suspect_72 : decode cX8_suspect 72 = .ok (.iload 5, 2) := by decide +kernel
theorem dX8_suspect_74 : decode cX8_suspect 74 = .ok (.iload 6, 2) := by decide +kernel
theorem dX8_suspect_76 : decode cX8_suspect 76 = .ok (.iadd, 1) := by decide +kernel
theorem dX8_suspect_77 : decode cX8_suspect 77 = .ok (.iastore, 1) := by decide +kernel
theorem dX8_suspect_78 : decode cX8_suspect 78 = .ok (.aload_n 0, 1) := by decide +kernel
theorem dX8_suspect_79 : decode cX8_suspect 79 = .ok (.invokevirtual 253, 3) := by decide +kernel
theorem dX8_suspect_82 : decode cX8_suspect 82 = .ok (.ifCond .eq 26, 3) := by decide +kernel
theorem dX8_suspect_85 : decode cX8_suspect 85 = .ok (.iload_n 2, 1) := by decide +kernel
theorem dX8_suspect_86 : decode cX8_suspect 86 = .ok (.iload_n 1, 1) := by decide +kernel
theorem dX8_suspect_87 : decode cX8_suspect 87 = .ok (.if_icmp .ne 16, 3) := by decide +kernel
theorem dX8_suspect_90 : decode cX8_suspect 90 = .ok (.bipush 10, 2) := by decide +kernel
theorem dX8_suspect_92 : decode cX8_suspect 92 = .ok (.iload 4, 2) := by decide +kernel
theorem dX8_suspect_94 : decode cX8_suspect 94 = .ok (.imul, 1) := by decide +kernel
theorem dX8_suspect_95 : decode cX8_suspect 95 = .ok (.iload 6, 2) := by decide +kernel
theorem dX8_suspect_97 : decode cX8_suspect 97 = .ok (.iadd, 1) := by decide +kernel
theorem dX8_suspect_98 : decode cX8_suspect 98 = .ok (.iconst 3, 1) := by decide +kernel
theorem dX8_suspect_99 : decode cX8_suspect 99 = .ok (.iadd, 1) := by decide +kernel
theorem dX8_suspect_100 : decode cX8_suspect 100 = .ok (.goto 4, 3) := by decide +kernel
theorem dX8_suspect_103 : decode cX8_suspect 103 = .ok (.iload_n 3, 1) := by decide +kernel
theorem dX8_suspect_104 : decode cX8_suspect 104 = .ok (.istore_n 3, 1) := by decide +kernel
theorem dX8_suspect_105 : decode cX8_suspect 105 = .ok (.iinc 2 1, 3) := by decide +kernel
theorem dX8_suspect_108 : decode cX8_suspect 108 = .ok (.iinc 6 1, 3) := by decide +kernel
theorem dX8_suspect_111 : decode cX8_suspect 111 = .ok (.goto (-82), 3) := by decide +kernel
theorem dX8_suspect_114 : decode cX8_suspect 114 = .ok (.aload_n 0, 1) := by decide +kernel
theorem dX8_suspect_115 : decode cX8_suspect 115 = .ok (.getfield 16, 3) := by decide +kernel
theorem dX8_suspect_118 : decode cX8_suspect 118 = .ok (.iload 4, 2) := by decide +kernel
theorem dX8_suspect_120 : decode cX8_suspect 120 = .ok (.iload 5, 2) := by decide +kernel
theorem dX8_suspect_122 : decode cX8_suspect 122 = .ok (.iastore, 1) := by decide +kernel
theorem dX8_suspect_123 : decode cX8_suspect 123 = .ok (.iinc 4 1, 3) := by decide +kernel
theorem dX8_suspect_126 : decode cX8_suspect 126 = .ok (.goto (-119), 3) := by decide +kernel
theorem dX8_suspect_129 : decode cX8_suspect 129 = .ok (.iload_n 1, 1) := by decide +kernel
theorem dX8_suspect_130 : decode cX8_suspect 130 = .ok (.iconst (-1), 1) := by decide +kernel
theorem dX8_suspect_131 : decode cX8_suspect 131 = .ok (.if_icmp .ne 7, 3) := by decide +kernel
theorem dX8_suspect_134 : decode cX8_suspect 134 = .ok (.iload_n 2, 1) := by decide +kernel
theorem dX8_suspect_135 : decode cX8_suspect 135 = .ok (.goto 4, 3) := by decide +kernel
theorem dX8_suspect_138 : decode cX8_suspect 138 = .ok (.iload_n 3, 1) := by decide +kernel
theorem dX8_suspect_139 : decode cX8_suspect 139 = .ok (.ireturn, 1) := by decide +kernel
set_option maxRecDepth 20000 in
theorem ggX8_feed_X8_in : GoodIn wsX8_feed wsX8_in := goodIn_r _ [10] (by decide +kernel) (by decide +kernel)
set_option maxRecDepth 20000 in
theorem gX8_feed_X8_in : GoodIn wsX8_feed (va_wsS RX8 99 yX8_in wsX8_in) := goodIn_app (goodIn_of _ (by decide +kernel)) ggX8_feed_X8_in
theorem dX8_feed_0 : decode cX8_feed 0 = .ok (.iload_n 1, 1) := by decide +kernel
theorem dX8_feed_1 : decode cX8_feed 1 = .ok (.i2l, 1) := by decide +kernel
theorem dX8_feed_2 : decode cX8_feed 2 = .ok (.lconst 1, 1) := by decide +kernel
theorem dX8_feed_3 : decode cX8_feed 3 = .ok (.ldc2_w 256, 3) := by decide +kernel
theorem dX8_feed_6 : decode cX8_feed 6 = .ok (.invokestatic 99, 3) := by decide +kernel
theorem dX8_feed_9 : decode cX8_feed 9 = .ok (.ifCond .ne 6, 3) := by decide +kernel
theorem dX8_feed_12 : decode cX8_feed 12 = .ok (.ldc 105, 2) := by decide +kernel
theorem dX8_feed_14 : decode cX8_feed 14 = .ok (.ireturn, 1) := by decide +kernel
theorem dX8_feed_15 : decode cX8_feed 15 = .ok (.aload_n 0, 1) := by decide +kernel
theorem dX8_feed_16 : decode cX8_feed 16 = .ok (.getfield 163, 3) := by decide +kernel
theorem dX8_feed_19 : decode cX8_feed 19 = .ok (.iload_n 1, 1) := by decide +kernel
theorem dX8_feed_20 : decode cX8_feed 20 = .ok (.iadd, 1) := by decide +kernel
theorem dX8_feed_21 : decode cX8_feed 21 = .ok (.sipush 160, 3) := by decide +kernel
theorem dX8_feed_24 : decode cX8_feed 24 = .ok (.if_icmp .le 6, 3) := by decide +kernel
theorem dX8_feed_27 : decode cX8_feed 27 = .ok (.ldc 220, 2) := by decide +kernel
theorem dX8_feed_29 : decode cX8_feed 29 = .ok (.ireturn, 1) := by decide +kernel
theorem dX8_feed_30 : decode cX8_feed 30 = .ok (.iload_n 1, 1) := by decide +kernel
theorem dX8_feed_31 : decode cX8_feed 31 = .ok (.iconst 1, 1) := by decide +kernel
theorem dX8_feed_32 : decode cX8_feed 32 = .ok (.isub, 1) := by decide +kernel
theorem dX8_feed_33 : decode cX8_feed 33 = .ok (.istore 4, 2) := by decide +kernel
theorem dX8_feed_35 : decode cX8_feed 35 = .ok (.iload 4, 2) := by decide +kernel
theorem dX8_feed_37 : decode cX8_feed 37 = .ok (.ifCond .lt 40, 3) := by decide +kernel
theorem dX8_feed_40 : decode cX8_feed 40 = .ok (.aload_n 0, 1) := by decide +kernel
theorem dX8_feed_41 : decode cX8_feed 41 = .ok (.getfield 66, 3) := by decide +kernel
theorem dX8_feed_44 : decode cX8_feed 44 = .ok (.aload_n 0, 1) := by decide +kernel
theorem dX8_feed_45 : decode cX8_feed 45 = .ok (.getfield 163, 3) := by decide +kernel
theorem dX8_feed_48 : decode cX8_feed 48 = .ok (.lload_n 2, 1) := by decide +kernel
theorem dX8_feed_49 : decode cX8_feed 49 = .ok (.bipush 8, 2) := by decide +kernel
theorem dX8_feed_51 : decode cX8_feed 51 = .ok (.iload 4, 2) := by decide +kernel
theorem dX8_feed_53 : decode cX8_feed 53 = .ok (.imul, 1) := by decide +kernel
theorem dX8_feed_54 : decode cX8_feed 54 = .ok (.lshr, 1) := by decide +kernel
theorem dX8_feed_55 : decode cX8_feed 55 = .ok (.ldc2_w 258, 3) := by decide +kernel
theorem dX8_feed_58 : decode cX8_feed 58 = .ok (.land, 1) := by decide +kernel
theorem dX8_feed_59 : decode cX8_feed 59 = .ok (.l2i, 1) := by decide +kernel
theorem dX8_feed_60 : decode cX8_feed 60 = .ok (.iastore, 1) := by decide +kernel
theorem dX8_feed_61 : decode cX8_feed 61 = .ok (.aload_n 0, 1) := by decide +kernel
theorem dX8_feed_62 : decode cX8_feed 62 = .ok (.dup, 1) := by decide +kernel
theorem dX8_feed_63 : decode cX8_feed 63 = .ok (.getfield 163, 3) := by decide +kernel
theorem dX8_feed_66 : decode cX8_feed 66 = .ok (.iconst 1, 1) := by decide +kernel
theorem dX8_feed_67 : decode cX8_feed 67 = .ok (.iadd, 1) := by decide +kernel
theorem dX8_feed_68 : decode cX8_feed 68 = .ok (.putfield 163, 3) := by decide +kernel
theorem dX8_feed_71 : decode cX8_feed 71 = .ok (.iinc 4 (-1), 3) := by decide +kernel
theorem dX8_feed_74 : decode cX8_feed 74 = .ok (.goto (-39), 3) := by decide +kernel
theorem dX8_feed_77 : decode cX8_feed 77 = .ok (.aload_n 0, 1) := by decide +kernel
theorem dX8_feed_78 : decode cX8_feed 78 = .ok (.getfield 163, 3) := by decide +kernel
theorem dX8_feed_81 : decode cX8_feed 81 = .ok (.ireturn, 1) := by decide +kernel
theorem dX8_here_0 : decode cX8_here 0 = .ok (.aload_n 0, 1) := by decide +kernel
theorem dX8_here_1 : decode cX8_here 1 = .ok (.getfield 260, 3) := by decide +kernel
theorem dX8_here_4 : decode cX8_here 4 = .ok (.aload_n 0, 1) := by decide +kernel
theorem dX8_here_5 : decode cX8_here 5 = .ok (.getfield 163, 3) := by decide +kernel
theorem dX8_here_8 : decode cX8_here 8 = .ok (.if_icmp .ge 30, 3) := by decide +kernel
theorem dX8_here_11 : decode cX8_here 11 = .ok (.aload_n 0, 1) := by decide +kernel
theorem dX8_here_12 : decode cX8_here 12 = .ok (.getfield 66, 3) := by decide +kernel
theorem dX8_here_15 : decode cX8_here 15 = .ok (.aload_n 0, 1) := by decide +kernel
theorem dX8_here_16 : decode cX8_here 16 = .ok (.getfield 260, 3) := by decide +kernel
theorem dX8_here_19 : decode cX8_here 19 = .ok (.iaload, 1) := by decide +kernel
theorem dX8_here_20 : decode cX8_here 20 = .ok (.bipush 32, 2) := by decide +kernel
theorem dX8_here_22 : decode cX8_here 22 = .ok (.if_icmp .ne 16, 3) := by decide +kernel
theorem dX8_here_25 : decode cX8_here 25 = .ok (.aload_n 0, 1) := by decide +kernel
theorem dX8_here_26 : decode cX8_here 26 = .ok (.dup, 1) := by decide +kernel
theorem dX8_here_27 : decode cX8_here 27 = .ok (.getfield 260, 3) := by decide +kernel
theorem dX8_here_30 : decode cX8_here 30 = .ok (.iconst 1, 1) := by decide +kernel
theorem dX8_here_31 : decode cX8_here 31 = .ok (.iadd, 1) := by decide +kernel
theorem dX8_here_32 : decode cX8_here 32 = .ok (.putfield 260, 3) := by decide +kernel
theorem dX8_here_35 : decode cX8_here 35 = .ok (.goto (-35), 3) := by decide +kernel
theorem dX8_here_38 : decode cX8_here 38 = .ok (.aload_n 0, 1) := by decide +kernel
theorem dX8_here_39 : decode cX8_here 39 = .ok (.getfield 260, 3) := by decide +kernel
theorem dX8_here_42 : decode cX8_here 42 = .ok (.aload_n 0, 1) := by decide +kernel
theorem dX8_here_43 : decode cX8_here 43 = .ok (.getfield 163, 3) := by decide +kernel
theorem dX8_here_46 : decode cX8_here 46 = .ok (.if_icmp .ge 15, 3) := by decide +kernel
theorem dX8_here_49 : decode cX8_here 49 = .ok (.aload_n 0, 1) := by decide +kernel
theorem dX8_here_50 : decode cX8_here 50 = .ok (.getfield 66, 3) := by decide +kernel
theorem dX8_here_53 : decode cX8_here 53 = .ok (.aload_n 0, 1) := by decide +kernel
theorem dX8_here_54 : decode cX8_here 54 = .ok (.getfield 260, 3) := by decide +kernel
theorem dX8_here_57 : decode cX8_here 57 = .ok (.iaload, 1) := by decide +kernel
theorem dX8_here_58 : decode cX8_here 58 = .ok (.goto 4, 3) := by decide +kernel
theorem dX8_here_61 : decode cX8_here 61 = .ok (.iconst (-1), 1) := by decide +kernel
theorem dX8_here_62 : decode cX8_here 62 = .ok (.ireturn, 1) := by decide +kernel
theorem dX8_want_0 : decode cX8_want 0 = .ok (.iload_n 1, 1) := by decide +kernel
theorem dX8_want_1 : decode cX8_want 1 = .ok (.ifCond .ne 20, 3) := by decide +kernel
theorem dX8_want_4 : decode cX8_want 4 = .ok (.aload_n 0, 1) := by decide +kernel
theorem dX8_want_5 : decode cX8_want 5 = .ok (.getfield 263, 3) := by decide +kernel
theorem dX8_want_8 : decode cX8_want 8 = .ok (.ifCond .ne 13, 3) := by decide +kernel
theorem dX8_want_11 : decode cX8_want 11 = .ok (.aload_n 0, 1) := by decide +kernel
theorem dX8_want_12 : decode cX8_want 12 = .ok (.iload_n 2, 1) := by decide +kernel
theorem dX8_want_13 : decode cX8_want 13 = .ok (.putfield 263, 3) := by decide +kernel
theorem dX8_want_16 : decode cX8_want 16 = .ok (.aload_n 0, 1) := by decide +kernel
theorem dX8_want_17 : decode cX8_want 17 = .ok (.iload_n 3, 1) := by decide +kernel
theorem dX8_want_18 : decode cX8_want 18 = .ok (.putfield 69, 3) := by decide +kernel
theorem dX8_want_21 : decode cX8_want 21 = .ok (.aload_n 0, 1) := by decide +kernel
theorem dX8_want_22 : decode cX8_want 22 = .ok (.getfield 263, 3) := by decide +kernel
theorem dX8_want_25 : decode cX8_want 25 = .ok (.ifCond .ne 7, 3) := by decide +kernel
theorem dX8_want_28 : decode cX8_want 28 = .ok (.iconst 1, 1) := by decide +kernel
theorem dX8_want_29 : decode cX8_want 29 = .ok (.goto 4, 3) := by decide +kernel
theorem dX8_want_32 : decode cX8_want 32 = .ok (.iconst 0, 1) := by decide +kernel
theorem dX8_want_33 : decode cX8_want 33 = .ok (.ireturn, 1) := by decide +kernel
set_option maxRecDepth 20000 in
theorem ggX8_takeWord_X8_here : GoodIn wsX8_takeWord wsX8_here := goodIn_r _ [12, 1, 3, 4, 16, 17, 18, 19, 20, 21, 22, 23, 24, 25, 26, 27, 28, 29, 30, 31, 32, 33, 34, 35, 36, 37, 38, 39, 40, 41, 42, 43, 44, 45, 46, 47, 48, 49, 50, 51, 52, 53, 54, 55, 56] (by decide +kernel) (by decide +kernel)
set_option maxRecDepth 20000 in
theorem gX8_takeWord_X8_here : GoodIn wsX8_takeWord (wsV RX8 266 RX8 yX8_here wsX8_here) := goodIn_app (goodIn_of _ (by decide +kernel)) ggX8_takeWord_X8_here
set_option maxRecDepth 20000 in
theorem ggX8_takeWord_X8_in : GoodIn wsX8_takeWord wsX8_in := goodIn_r _ [15] (by decide +kernel) (by decide +kernel)
set_option maxRecDepth 20000 in
theorem gX8_takeWord_X8_in : GoodIn wsX8_takeWord (va_wsS RX8 99 yX8_in wsX8_in) := goodIn_app (goodIn_of _ (by decide +kernel)) ggX8_takeWord_X8_in
theorem dX8_takeWord_0 : decode cX8_takeWord 0 = .ok (.aload_n 0, 1) := by decide +kernel
theorem dX8_takeWord_1 : decode cX8_takeWord 1 = .ok (.invokevirtual 266, 3) := by decide +kernel
theorem dX8_takeWord_4 : decode cX8_takeWord 4 = .ok (.istore_n 1, 1) := by decide +kernel
theorem dX8_takeWord_5 : decode cX8_takeWord 5 = .ok (.aload_n 0, 1) := by decide +kernel
theorem dX8_takeWord_6 : decode cX8_takeWord 6 = .ok (.aload_n 0, 1) := by decide +kernel
theorem dX8_takeWord_7 : decode cX8_takeWord 7 = .ok (.getfield 260, 3) := by decide +kernel
theorem dX8_takeWord_10 : decode cX8_takeWord 10 = .ok (.putfield 269, 3) := by decide +kernel
theorem dX8_takeWord_13 : decode cX8_takeWord 13 = .ok (.aload_n 0, 1) := by decide +kernel
theorem dX8_takeWord_14 : decode cX8_takeWord 14 = .ok (.getfield 260, 3) := by decide +kernel
theorem dX8_takeWord_17 : decode cX8_takeWord 17 = .ok (.aload_n 0, 1) := by decide +kernel
theorem dX8_takeWord_18 : decode cX8_takeWord 18 = .ok (.getfield 163, 3) := by decide +kernel
theorem dX8_takeWord_21 : decode cX8_takeWord 21 = .ok (.if_icmp .ge 38, 3) := by decide +kernel
theorem dX8_takeWord_24 : decode cX8_takeWord 24 = .ok (.aload_n 0, 1) := by decide +kernel
theorem dX8_takeWord_25 : decode cX8_takeWord 25 = .ok (.getfield 66, 3) := by decide +kernel
theorem dX8_takeWord_28 : decode cX8_takeWord 28 = .ok (.aload_n 0, 1) := by decide +kernel
theorem dX8_takeWord_29 : decode cX8_takeWord 29 = .ok (.getfield 260, 3) := by decide +kernel
theorem dX8_takeWord_32 : decode cX8_takeWord 32 = .ok (.iaload, 1) := by decide +kernel
theorem dX8_takeWord_33 : decode cX8_takeWord 33 = .ok (.i2l, 1) := by decide +kernel
theorem dX8_takeWord_34 : decode cX8_takeWord 34 = .ok (.ldc2_w 272, 3) := by decide +kernel
theorem dX8_takeWord_37 : decode cX8_takeWord 37 = .ok (.ldc2_w 274, 3) := by decide +kernel
theorem dX8_takeWord_40 : decode cX8_takeWord 40 = .ok (.invokestatic 99, 3) := by decide +kernel
theorem dX8_takeWord_43 : decode cX8_takeWord 43 = .ok (.ifCond .eq 16, 3) := by decide +kernel
theorem dX8_takeWord_46 : decode cX8_takeWord 46 = .ok (.aload_n 0, 1) := by decide +kernel
theorem dX8_takeWord_47 : decode cX8_takeWord 47 = .ok (.dup, 1) := by decide +kernel
theorem dX8_takeWord_48 : decode cX8_takeWord 48 = .ok (.getfield 260, 3) := by decide +kernel
theorem dX8_takeWord_51 : decode cX8_takeWord 51 = .ok (.iconst 1, 1) := by decide +kernel
theorem dX8_takeWord_52 : decode cX8_takeWord 52 = .ok (.iadd, 1) := by decide +kernel
theorem dX8_takeWord_53 : decode cX8_takeWord 53 = .ok (.putfield 260, 3) := by decide +kernel
theorem dX8_takeWord_56 : decode cX8_takeWord 56 = .ok (.goto (-43), 3) := by decide +kernel
theorem dX8_takeWord_59 : decode cX8_takeWord 59 = .ok (.aload_n 0, 1) := by decide +kernel
theorem dX8_takeWord_60 : decode cX8_takeWord 60 = .ok (.aload_n 0, 1) := by decide +kernel
theorem dX8_takeWord_61 : decode cX8_takeWord 61 = .ok (.getfield 260, 3) := by decide +kernel
theorem dX8_takeWord_64 : decode cX8_takeWord 64 = .ok (.aload_n 0, 1) := by decide +kernel
theorem dX8_takeWord_65 : decode cX8_takeWord 65 = .ok (.getfield 269, 3) := by decide +kernel
theorem dX8_takeWord_68 : decode cX8_takeWord 68 = .ok (.isub, 1) := by decide +kernel
theorem dX8_takeWord_69 : decode cX8_takeWord 69 = .ok (.putfield 276, 3) := by decide +kernel
theorem dX8_takeWord_72 : decode cX8_takeWord 72 = .ok (.return_, 1) := by decide +kernel
theorem dX8_isWord_0 : decode cX8_isWord 0 = .ok (.aload_n 0, 1) := by decide +kernel
theorem dX8_isWord_1 : decode cX8_isWord 1 = .ok (.getfield 276, 3) := by decide +kernel
theorem dX8_isWord_4 : decode cX8_isWord 4 = .ok (.iload_n 1, 1) := by decide +kernel
theorem dX8_isWord_5 : decode cX8_isWord 5 = .ok (.if_icmp .ne 7, 3) := by decide +kernel
theorem dX8_isWord_8 : decode cX8_isWord 8 = .ok (.iconst 1, 1) := by decide +kernel
theorem dX8_isWord_9 : decode cX8_isWord 9 = .ok (.goto 4, 3) := by decide +kernel
theorem dX8_isWord_12 : decode cX8_isWord 12 = .ok (.iconst 0, 1) := by decide +kernel
theorem dX8_isWord_13 : decode cX8_isWord 13 = .ok (.istore 7, 2) := by decide +kernel
theorem dX8_isWord_15 : decode cX8_isWord 15 = .ok (.iconst 0, 1) := by decide +kernel
theorem dX8_isWord_16 : decode cX8_isWord 16 = .ok (.istore 8, 2) := by decide +kernel
theorem dX8_isWord_18 : decode cX8_isWord 18 = .ok (.iload 8, 2) := by decide +kernel
theorem dX8_isWord_20 : decode cX8_isWord 20 = .ok (.iload_n 1, 1) := by decide +kernel
theorem dX8_isWord_21 : decode cX8_isWord 21 = .ok (.if_icmp .ge 79, 3) := by decide +kernel
theorem dX8_isWord_24 : decode cX8_isWord 24 = .ok (.iload 7, 2) := by decide +kernel
theorem dX8_isWord_26 : decode cX8_isWord 26 = .ok (.ifCond .eq 74, 3) := by decide +kernel
theorem dX8_isWord_29 : decode cX8_isWord 29 = .ok (.aload_n 0, 1) := by decide +kernel
theorem dX8_isWord_30 : decode cX8_isWord 30 = .ok (.getfield 66, 3) := by decide +kernel
theorem dX8_isWord_33 : decode cX8_isWord 33 = .ok (.aload_n 0, 1) := by decide +kernel
theorem dX8_isWord_34 : decode cX8_isWord 34 = .ok (.getfield 269, 3) := by decide +kernel
theorem dX8_isWord_37 : decode cX8_isWord 37 = .ok (.iload 8, 2) := by decide +kernel
theorem dX8_isWord_39 : decode cX8_isWord 39 = .ok (.iadd, 1) := by decide +kernel
theorem dX8_isWord_40 : decode cX8_isWord 40 = .ok (.iaload, 1) := by decide +kernel
theorem dX8_isWord_41 : decode cX8_isWord 41 = .ok (.iload 8, 2) := by decide +kernel
theorem dX8_isWord_43 : decode cX8_isWord 43 = .ok (.ifCond .ne 7, 3) := by decide +kernel
theorem dX8_isWord_46 : decode cX8_isWord 46 = .ok (.iload_n 2, 1) := by decide +kernel
theorem dX8_isWord_47 : decode cX8_isWord 47 = .ok (.goto 37, 3) := by decide +kernel
theorem dX8_isWord_50 : decode cX8_isWord 50 = .ok (.iload 8, 2) := by decide +kernel
theorem dX8_isWord_52 : decode cX8_isWord 52 = .ok (.iconst 1, 1) := by decide +kernel
theorem dX8_isWord_53 : decode cX8_isWord 53 = .ok (.if_icmp .ne 7, 3) := by decide +kernel
theorem dX8_isWord_56 : decode cX8_isWord 56 = .ok (.iload_n 3, 1) := by decide +kernel
theorem dX8_isWord_57 : decode cX8_isWord 57 = .ok (.goto 27, 3) := by decide +kernel
theorem dX8_isWord_60 : decode cX8_isWord 60 = .ok (.iload 8, 2) := by decide +kernel
theorem dX8_isWord_62 : decode cX8_isWord 62 = .ok (.iconst 2, 1) := by decide +kernel
theorem dX8_isWord_63 : decode cX8_isWord 63 = .ok (.if_icmp .ne 8, 3) := by decide +kernel
theorem dX8_isWord_66 : decode cX8_isWord 66 = .ok (.iload 4, 2) := by decide +kernel
theorem dX8_isWord_68 : decode cX8_isWord 68 = .ok (.goto 16, 3) := by decide +kernel
theorem dX8_isWord_71 : decode cX8_isWord 71 = .ok (.iload 8, 2) := by decide +kernel
theorem dX8_isWord_73 : decode cX8_isWord 73 = .ok (.iconst 3, 1) := by decide +kernel
theorem dX8_isWord_74 : decode cX8_isWord 74 = .ok (.if_icmp .ne 8, 3) := by decide +kernel
theorem dX8_isWord_77 : decode cX8_isWord 77 = .ok (.iload 5, 2) := by decide +kernel
theorem dX8_isWord_79 : decode cX8_isWord 79 = .ok (.goto 5, 3) := by decide +kernel
theorem dX8_isWord_82 : decode cX8_isWord 82 = .ok (.iload 6, 2) := by decide +kernel
theorem dX8_isWord_84 : decode cX8_isWord 84 = .ok (.if_icmp .ne 7, 3) := by decide +kernel
theorem dX8_isWord_87 : decode cX8_isWord 87 = .ok (.iconst 1, 1) := by decide +kernel
theorem dX8_isWord_88 : decode cX8_isWord 88 = .ok (.goto 4, 3) := by decide +kernel
theorem dX8_isWord_91 : decode cX8_isWord 91 = .ok (.iconst 0, 1) := by decide +kernel
theorem dX8_isWord_92 : decode cX8_isWord 92 = .ok (.istore 7, 2) := by decide +kernel
theorem dX8_isWord_94 : decode cX8_isWord 94 = .ok (.iinc 8 1, 3) := by decide +kernel
theorem dX8_isWord_97 : decode cX8_isWord 97 = .ok (.goto (-79), 3) := by decide +kernel
theorem dX8_isWord_100 : decode cX8_isWord 100 = .ok (.iload 7, 2) := by decide +kernel
theorem dX8_isWord_102 : decode cX8_isWord 102 = .ok (.ireturn, 1) := by decide +kernel
set_option maxRecDepth 20000 in
theorem ggX8_clauseOf_X8_isWord : GoodIn wsX8_clauseOf wsX8_isWord := goodIn_r _ [5, 6, 7, 8, 9, 10, 11, 12, 13, 14, 15, 16, 17, 18, 19, 20, 21, 22, 23, 24, 25, 26, 27, 28, 29, 30, 31, 32, 33, 34, 35, 36, 37, 38, 39, 40, 41, 42, 43, 44, 45, 46, 47, 48, 49] (by decide +kernel) (by decide +kernel)
set_option maxRecDepth 20000 in
theorem gX8_clauseOf_X8_isWord : GoodIn wsX8_clauseOf (wsV RX8 279 RX8 yX8_isWord wsX8_isWord) := goodIn_app (goodIn_of _ (by decide +kernel)) ggX8_clauseOf_X8_isWord
theorem dX8_clauseOf_0 : decode cX8_clauseOf 0 = .ok (.aload_n 0, 1) := by decide +kernel
theorem dX8_clauseOf_1 : decode cX8_clauseOf 1 = .ok (.iconst 4, 1) := by decide +kernel
theorem dX8_clauseOf_2 : decode cX8_clauseOf 2 = .ok (.bipush 100, 2) := by decide +kernel
theorem dX8_clauseOf_4 : decode cX8_clauseOf 4 = .ok (.bipush 114, 2) := by decide +kernel
theorem dX8_clauseOf_6 : decode cX8_clauseOf 6 = .ok (.bipush 97, 2) := by decide +kernel
theorem dX8_clauseOf_8 : decode cX8_clauseOf 8 = .ok (.bipush 119, 2) := by decide +kernel
theorem dX8_clauseOf_10 : decode cX8_clauseOf 10 = .ok (.iconst 0, 1) := by decide +kernel
theorem dX8_clauseOf_11 : decode cX8_clauseOf 11 = .ok (.invokevirtual 279, 3) := by decide +kernel
theorem dX8_clauseOf_14 : decode cX8_clauseOf 14 = .ok (.ifCond .eq 5, 3) := by decide +kernel
theorem dX8_clauseOf_17 : decode cX8_clauseOf 17 = .ok (.iconst 0, 1) := by decide +kernel
theorem dX8_clauseOf_18 : decode cX8_clauseOf 18 = .ok (.ireturn, 1) := by decide +kernel
theorem dX8_clauseOf_19 : decode cX8_clauseOf 19 = .ok (.aload_n 0, 1) := by decide +kernel
theorem dX8_clauseOf_20 : decode cX8_clauseOf 20 = .ok (.iconst 4, 1) := by decide +kernel
theorem dX8_clauseOf_21 : decode cX8_clauseOf 21 = .ok (.bipush 112, 2) := by decide +kernel
theorem dX8_clauseOf_23 : decode cX8_clauseOf 23 = .ok (.bipush 97, 2) := by decide +kernel
theorem dX8_clauseOf_25 : decode cX8_clauseOf 25 = .ok (.bipush 115, 2) := by decide +kernel
theorem dX8_clauseOf_27 : decode cX8_clauseOf 27 = .ok (.bipush 115, 2) := by decide +kernel
theorem dX8_clauseOf_29 : decode cX8_clauseOf 29 = .ok (.iconst 0, 1) := by decide +kernel
theorem dX8_clauseOf_30 : decode cX8_clauseOf 30 = .ok (.invokevirtual 279, 3) := by decide +kernel
theorem dX8_clauseOf_33 : decode cX8_clauseOf 33 = .ok (.ifCond .eq 5, 3) := by decide +kernel
theorem dX8_clauseOf_36 : decode cX8_clauseOf 36 = .ok (.iconst 1, 1) := by decide +kernel
theorem dX8_clauseOf_37 : decode cX8_clauseOf 37 = .ok (.ireturn, 1) := by decide +kernel
theorem dX8_clauseOf_38 : decode cX8_clauseOf 38 = .ok (.aload_n 0, 1) := by decide +kernel
theorem dX8_clauseOf_39 : decode cX8_clauseOf 39 = .ok (.iconst 4, 1) := by decide +kernel
theorem dX8_clauseOf_40 : decode cX8_clauseOf 40 = .ok (.bipush 108, 2) := by decide +kernel
theorem dX8_clauseOf_42 : decode cX8_clauseOf 42 = .ok (.bipush 111, 2) := by decide +kernel
theorem dX8_clauseOf_44 : decode cX8_clauseOf 44 = .ok (.bipush 97, 2) := by decide +kernel
theorem dX8_clauseOf_46 : decode cX8_clauseOf 46 = .ok (.bipush 100, 2) := by decide +kernel
theorem dX8_clauseOf_48 : decode cX8_clauseOf 48 = .ok (.iconst 0, 1) := by decide +kernel
theorem dX8_clauseOf_49 : decode cX8_clauseOf 49 = .ok (.invokevirtual 279, 3) := by decide +kernel
theorem dX8_clauseOf_52 : decode cX8_clauseOf 52 = .ok (.ifCond .eq 5, 3) := by decide +kernel
theorem dX8_clauseOf_55 : decode cX8_clauseOf 55 = .ok (.iconst 2, 1) := by decide +kernel
theorem dX8_clauseOf_56 : decode cX8_clauseOf 56 = .ok (.ireturn, 1) := by decide +kernel
theorem dX8_clauseOf_57 : decode cX8_clauseOf 57 = .ok (.aload_n 0, 1) := by decide +kernel
theorem dX8_clauseOf_58 : decode cX8_clauseOf 58 = .ok (.iconst 5, 1) := by decide +kernel
theorem dX8_clauseOf_59 : decode cX8_clauseOf 59 = .ok (.bipush 98, 2) := by decide +kernel
theorem dX8_clauseOf_61 : decode cX8_clauseOf 61 = .ok (.bipush 114, 2) := by decide +kernel
theorem dX8_clauseOf_63 : decode cX8_clauseOf 63 = .ok (.bipush 101, 2) := by decide +kernel
theorem dX8_clauseOf_65 : decode cX8_clauseOf 65 = .ok (.bipush 97, 2) := by decide +kernel
theorem dX8_clauseOf_67 : decode cX8_clauseOf 67 = .ok (.bipush 107, 2) := by decide +kernel
theorem dX8_clauseOf_69 : decode cX8_clauseOf 69 = .ok (.invokevirtual 279, 3) := by decide +kernel
theorem dX8_clauseOf_72 : decode cX8_clauseOf 72 = .ok (.ifCond .eq 5, 3) := by decide +kernel
theorem dX8_clauseOf_75 : decode cX8_clauseOf 75 = .ok (.iconst 3, 1) := by decide +kernel
theorem dX8_clauseOf_76 : decode cX8_clauseOf 76 = .ok (.ireturn, 1) := by decide +kernel
theorem dX8_clauseOf_77 : decode cX8_clauseOf 77 = .ok (.aload_n 0, 1) := by decide +kernel
theorem dX8_clauseOf_78 : decode cX8_clauseOf 78 = .ok (.iconst 4, 1) := by decide +kernel
theorem dX8_clauseOf_79 : decode cX8_clauseOf 79 = .ok (.bipush 109, 2) := by decide +kernel
theorem dX8_clauseOf_81 : decode cX8_clauseOf 81 = .ok (.bipush 101, 2) := by decide +kernel
theorem dX8_clauseOf_83 : decode cX8_clauseOf 83 = .ok (.bipush 110, 2) := by decide +kernel
theorem dX8_clauseOf_85 : decode cX8_clauseOf 85 = .ok (.bipush 100, 2) := by decide +kernel
theorem dX8_clauseOf_87 : decode cX8_clauseOf 87 = .ok (.iconst 0, 1) := by decide +kernel
theorem dX8_clauseOf_88 : decode cX8_clauseOf 88 = .ok (.invokevirtual 279, 3) := by decide +kernel
theorem dX8_clauseOf_91 : decode cX8_clauseOf 91 = .ok (.ifCond .eq 5, 3) := by decide +kernel
theorem dX8_clauseOf_94 : decode cX8_clauseOf 94 = .ok (.iconst 4, 1) := by decide +kernel
theorem dX8_clauseOf_95 : decode cX8_clauseOf 95 = .ok (.ireturn, 1) := by decide +kernel
theorem dX8_clauseOf_96 : decode cX8_clauseOf 96 = .ok (.aload_n 0, 1) := by decide +kernel
theorem dX8_clauseOf_97 : decode cX8_clauseOf 97 = .ok (.iconst 3, 1) := by decide +kernel
theorem dX8_clauseOf_98 : decode cX8_clauseOf 98 = .ok (.bipush 114, 2) := by decide +kernel
theorem dX8_clauseOf_100 : decode cX8_clauseOf 100 = .ok (.bipush 111, 2) := by decide +kernel
theorem dX8_clauseOf_102 : decode cX8_clauseOf 102 = .ok (.bipush 119, 2) := by decide +kernel
theorem dX8_clauseOf_104 : decode cX8_clauseOf 104 = .ok (.iconst 0, 1) := by decide +kernel
theorem dX8_clauseOf_105 : decode cX8_clauseOf 105 = .ok (.iconst 0, 1) := by decide +kernel
theorem dX8_clauseOf_106 : decode cX8_clauseOf 106 = .ok (.invokevirtual 279, 3) := by decide +kernel
theorem dX8_clauseOf_109 : decode cX8_clauseOf 109 = .ok (.ifCond .eq 7, 3) := by decide +kernel
theorem dX8_clauseOf_112 : decode cX8_clauseOf 112 = .ok (.iconst 5, 1) := by decide +kernel
theorem dX8_clauseOf_113 : decode cX8_clauseOf 113 = .ok (.goto 4, 3) := by decide +kernel
theorem dX8_clauseOf_116 : decode cX8_clauseOf 116 = .ok (.iconst (-1), 1) := by decide +kernel
theorem dX8_clauseOf_117 : decode cX8_clauseOf 117 = .ok (.ireturn, 1) := by decide +kernel
set_option maxRecDepth 20000 in
theorem ggX8_takeNumber_X8_here : GoodIn wsX8_takeNumber wsX8_here := goodIn_r _ [11, 1, 5, 6, 21, 22, 23, 24, 25, 26, 27, 28, 29, 30, 31, 32, 33, 34, 35, 36, 37, 38, 39, 40, 41, 42, 43, 44, 45, 46, 47, 48, 49, 50, 51, 52, 53, 54, 55, 56, 57, 58, 59, 60, 61] (by decide +kernel) (by decide +kernel)
set_option maxRecDepth 20000 in
theorem gX8_takeNumber_X8_here : GoodIn wsX8_takeNumber (wsV RX8 266 RX8 yX8_here wsX8_here) := goodIn_app (goodIn_of _ (by decide +kernel)) ggX8_takeNumber_X8_here
set_option maxRecDepth 20000 in
theorem ggX8_takeNumber_X8_in : GoodIn wsX8_takeNumber wsX8_in := goodIn_r _ [14] (by decide +kernel) (by decide +kernel)
set_option maxRecDepth 20000 in
theorem gX8_takeNumber_X8_in : GoodIn wsX8_takeNumber (va_wsS RX8 99 yX8_in wsX8_in) := goodIn_app (goodIn_of _ (by decide +kernel)) ggX8_takeNumber_X8_in
set_option maxRecDepth 20000 in
theorem ggX8_takeNumber_X8_want : GoodIn wsX8_takeNumber wsX8_want := goodIn_r _ [18, 19, 20, 21, 22, 23, 24, 25, 26, 27, 28, 29, 30, 31, 32, 33, 34, 35, 36, 37, 38, 39, 40, 41, 42, 43, 44, 45, 46, 47, 48, 49, 50, 51, 52, 53, 54, 55, 56, 57, 58, 59, 60, 61] (by decide +kernel) (by decide +kernel)
set_option maxRecDepth 20000 in
theorem gX8_takeNumber_X8_want : GoodIn wsX8_takeNumber (wsV RX8 287 RX8 yX8_want wsX8_want) := goodIn_app (goodIn_of _ (by decide +kernel)) ggX8_takeNumber_X8_want
theorem dX8_takeNumber_0 : decode cX8_takeNumber 0 = .ok (.aload_n 0, 1) := by decide +kernel
theorem dX8_takeNumber_1 : decode cX8_takeNumber 1 = .ok (.invokevirtual 266, 3) := by decide +kernel
theorem dX8_takeNumber_4 : decode cX8_takeNumber 4 = .ok (.istore_n 3, 1) := by decide +kernel
theorem dX8_takeNumber_5 : decode cX8_takeNumber 5 = .ok (.aload_n 0, 1) := by decide +kernel
theorem dX8_takeNumber_6 : decode cX8_takeNumber 6 = .ok (.aload_n 0, 1) := by decide +kernel
theorem dX8_takeNumber_7 : decode cX8_takeNumber 7 = .ok (.getfield 260, 3) := by decide +kernel
theorem dX8_takeNumber_10 : decode cX8_takeNumber 10 = .ok (.putfield 269, 3) := by decide +kernel
theorem dX8_takeNumber_13 : decode cX8_takeNumber 13 = .ok (.aload_n 0, 1) := by decide +kernel
theorem dX8_takeNumber_14 : decode cX8_takeNumber 14 = .ok (.iload_n 3, 1) := by decide +kernel
theorem dX8_takeNumber_15 : decode cX8_takeNumber 15 = .ok (.i2l, 1) := by decide +kernel
theorem dX8_takeNumber_16 : decode cX8_takeNumber 16 = .ok (.ldc2_w 283, 3) := by decide +kernel
theorem dX8_takeNumber_19 : decode cX8_takeNumber 19 = .ok (.ldc2_w 285, 3) := by decide +kernel
theorem dX8_takeNumber_22 : decode cX8_takeNumber 22 = .ok (.invokestatic 99, 3) := by decide +kernel
theorem dX8_takeNumber_25 : decode cX8_takeNumber 25 = .ok (.iconst 1, 1) := by decide +kernel
theorem dX8_takeNumber_26 : decode cX8_takeNumber 26 = .ok (.aload_n 0, 1) := by decide +kernel
theorem dX8_takeNumber_27 : decode cX8_takeNumber 27 = .ok (.getfield 260, 3) := by decide +kernel
theorem dX8_takeNumber_30 : decode cX8_takeNumber 30 = .ok (.invokevirtual 287, 3) := by decide +kernel
theorem dX8_takeNumber_33 : decode cX8_takeNumber 33 = .ok (.ifCond .ne 5, 3) := by decide +kernel
theorem dX8_takeNumber_36 : decode cX8_takeNumber 36 = .ok (.iconst 0, 1) := by decide +kernel
theorem dX8_takeNumber_37 : decode cX8_takeNumber 37 = .ok (.ireturn, 1) := by decide +kernel
theorem dX8_takeNumber_38 : decode cX8_takeNumber 38 = .ok (.iconst 0, 1) := by decide +kernel
theorem dX8_takeNumber_39 : decode cX8_takeNumber 39 = .ok (.istore 4, 2) := by decide +kernel
theorem dX8_takeNumber_41 : decode cX8_takeNumber 41 = .ok (.aload_n 0, 1) := by decide +kernel
theorem dX8_takeNumber_42 : decode cX8_takeNumber 42 = .ok (.getfield 260, 3) := by decide +kernel
theorem dX8_takeNumber_45 : decode cX8_takeNumber 45 = .ok (.aload_n 0, 1) := by decide +kernel
theorem dX8_takeNumber_46 : decode cX8_takeNumber 46 = .ok (.getfield 163, 3) := by decide +kernel
theorem dX8_takeNumber_49 : decode cX8_takeNumber 49 = .ok (.if_icmp .ge 71, 3) := by decide +kernel
theorem dX8_takeNumber_52 : decode cX8_takeNumber 52 = .ok (.aload_n 0, 1) := by decide +kernel
theorem dX8_takeNumber_53 : decode cX8_takeNumber 53 = .ok (.getfield 66, 3) := by decide +kernel
theorem dX8_takeNumber_56 : decode cX8_takeNumber 56 = .ok (.aload_n 0, 1) := by decide +kernel
theorem dX8_takeNumber_57 : decode cX8_takeNumber 57 = .ok (.getfield 260, 3) := by decide +kernel
theorem dX8_takeNumber_60 : decode cX8_takeNumber 60 = .ok (.iaload, 1) := by decide +kernel
theorem dX8_takeNumber_61 : decode cX8_takeNumber 61 = .ok (.i2l, 1) := by decide +kernel
theorem dX8_takeNumber_62 : decode cX8_takeNumber 62 = .ok (.ldc2_w 283, 3) := by decide +kernel
theorem dX8_takeNumber_65 : decode cX8_takeNumber 65 = .ok (.ldc2_w 285, 3) := by decide +kernel
theorem dX8_takeNumber_68 : decode cX8_takeNumber 68 = .ok (.invokestatic 99, 3) := by decide +kernel
theorem dX8_takeNumber_71 : decode cX8_takeNumber 71 = .ok (.ifCond .eq 49, 3) := by decide +kernel
theorem dX8_takeNumber_74 : decode cX8_takeNumber 74 = .ok (.iload 4, 2) := by decide +kernel
theorem dX8_takeNumber_76 : decode cX8_takeNumber 76 = .ok (.sipush 9999, 3) := by decide +kernel
theorem dX8_takeNumber_79 : decode cX8_takeNumber 79 = .ok (.if_icmp .le 8, 3) := by decide +kernel
theorem dX8_takeNumber_82 : decode cX8_takeNumber 82 = .ok (.iload 4, 2) := by decide +kernel
theorem dX8_takeNumber_84 : decode cX8_takeNumber 84 = .ok (.goto 21, 3) := by decide +kernel
theorem dX8_takeNumber_87 : decode cX8_takeNumber 87 = .ok (.bipush 10, 2) := by decide +kernel
theorem dX8_takeNumber_89 : decode cX8_takeNumber 89 = .ok (.iload 4, 2) := by decide +kernel
theorem dX8_takeNumber_91 : decode cX8_takeNumber 91 = .ok (.imul, 1) := by decide +kernel
theorem dX8_takeNumber_92 : decode cX8_takeNumber 92 = .ok (.aload_n 0, 1) := by decide +kernel
theorem dX8_takeNumber_93 : decode cX8_takeNumber 93 = .ok (.getfield 66, 3) := by decide +kernel
theorem dX8_takeNumber_96 : decode cX8_takeNumber 96 = .ok (.aload_n 0, 1) := by decide +kernel
theorem dX8_takeNumber_97 : decode cX8_takeNumber 97 = .ok (.getfield 260, 3) := by decide +kernel
theorem dX8_takeNumber_100 : decode cX8_takeNumber 100 = .ok (.iaload, 1) := by decide +kernel
theorem dX8_takeNumber_101 : decode cX8_takeNumber 101 = .ok (.iadd, 1) := by decide +kernel
theorem dX8_takeNumber_102 : decode cX8_takeNumber 102 = .ok (.bipush 48, 2) := by decide +kernel
theorem dX8_takeNumber_104 : decode cX8_takeNumber 104 = .ok (.isub, 1) := by decide +kernel
theorem dX8_takeNumber_105 : decode cX8_takeNumber 105 = .ok (.istore 4, 2) := by decide +kernel
theorem dX8_takeNumber_107 : decode cX8_takeNumber 107 = .ok (.aload_n 0, 1) := by decide +kernel
theorem dX8_takeNumber_108 : decode cX8_takeNumber 108 = .ok (.dup, 1) := by decide +kernel
theorem dX8_takeNumber_109 : decode cX8_takeNumber 109 = .ok (.getfield 260, 3) := by decide +kernel
theorem dX8_takeNumber_112 : decode cX8_takeNumber 112 = .ok (.iconst 1, 1) := by decide +kernel
theorem dX8_takeNumber_113 : decode cX8_takeNumber 113 = .ok (.iadd, 1) := by decide +kernel
theorem dX8_takeNumber_114 : decode cX8_takeNumber 114 = .ok (.putfield 260, 3) := by decide +kernel
theorem dX8_takeNumber_117 : decode cX8_takeNumber 117 = .ok (.goto (-76), 3) := by decide +kernel
theorem dX8_takeNumber_120 : decode cX8_takeNumber 120 = .ok (.aload_n 0, 1) := by decide +kernel
theorem dX8_takeNumber_121 : decode cX8_takeNumber 121 = .ok (.aload_n 0, 1) := by decide +kernel
theorem dX8_takeNumber_122 : decode cX8_takeNumber 122 = .ok (.getfield 260, 3) := by decide +kernel
theorem dX8_takeNumber_125 : decode cX8_takeNumber 125 = .ok (.aload_n 0, 1) := by decide +kernel
theorem dX8_takeNumber_126 : decode cX8_takeNumber 126 = .ok (.getfield 269, 3) := by decide +kernel
theorem dX8_takeNumber_129 : decode cX8_takeNumber 129 = .ok (.isub, 1) := by decide +kernel
theorem dX8_takeNumber_130 : decode cX8_takeNumber 130 = .ok (.iconst 4, 1) := by decide +kernel
theorem dX8_takeNumber_131 : decode cX8_takeNumber 131 = .ok (.if_icmp .ge 20, 3) := by decide +kernel
theorem dX8_takeNumber_134 : decode cX8_takeNumber 134 = .ok (.iload 4, 2) := by decide +kernel
theorem dX8_takeNumber_136 : decode cX8_takeNumber 136 = .ok (.i2l, 1) := by decide +kernel
theorem dX8_takeNumber_137 : decode cX8_takeNumber 137 = .ok (.iload_n 1, 1) := by decide +kernel
theorem dX8_takeNumber_138 : decode cX8_takeNumber 138 = .ok (.i2l, 1) := by decide +kernel
theorem dX8_takeNumber_139 : decode cX8_takeNumber 139 = .ok (.iload_n 2, 1) := by decide +kernel
theorem dX8_takeNumber_140 : decode cX8_takeNumber 140 = .ok (.i2l, 1) := by decide +kernel
theorem dX8_takeNumber_141 : decode cX8_takeNumber 141 = .ok (.invokestatic 99, 3) := by decide +kernel
theorem dX8_takeNumber_144 : decode cX8_takeNumber 144 = .ok (.ifCond .eq 7, 3) := by decide +kernel
theorem dX8_takeNumber_147 : decode cX8_takeNumber 147 = .ok (.iconst 1, 1) := by decide +kernel
theorem dX8_takeNumber_148 : decode cX8_takeNumber 148 = .ok (.goto 4, 3) := by decide +kernel
theorem dX8_takeNumber_151 : decode cX8_takeNumber 151 = .ok (.iconst 0, 1) := by decide +kernel
theorem dX8_takeNumber_152 : decode cX8_takeNumber 152 = .ok (.iconst 2, 1) := by decide +kernel
theorem dX8_takeNumber_153 : decode cX8_takeNumber 153 = .ok (.aload_n 0, 1) := by decide +kernel
theorem dX8_takeNumber_154 : decode cX8_takeNumber 154 = .ok (.getfield 269, 3) := by decide +kernel
theorem dX8_takeNumber_157 : decode cX8_takeNumber 157 = .ok (.invokevirtual 287, 3) := by decide +kernel
theorem dX8_takeNumber_160 : decode cX8_takeNumber 160 = .ok (.istore 5, 2) := by decide +kernel
theorem dX8_takeNumber_162 : decode cX8_takeNumber 162 = .ok (.iload 4, 2) := by decide +kernel
theorem dX8_takeNumber_164 : decode cX8_takeNumber 164 = .ok (.ireturn, 1) := by decide +kernel
set_option maxRecDepth 20000 in
theorem ggX8_takeRow_X8_takeNumber : GoodIn wsX8_takeRow wsX8_takeNumber := goodIn_r _ [11, 6, 3, 4, 5, 12, 13, 14, 15, 16, 10, 17, 18, 19, 20, 21, 22, 23, 24, 1, 25, 26, 27, 28, 29, 30, 31, 32, 33, 34, 35, 36, 37, 38, 39, 40, 41, 42, 43, 44, 45, 46, 47, 48, 49, 50, 51, 52, 53, 54, 55, 56, 57, 58, 59, 60, 61, 62, 63, 64, 65, 66] (by decide +kernel) (by decide +kernel)
set_option maxRecDepth 20000 in
theorem gX8_takeRow_X8_takeNumber : GoodIn wsX8_takeRow (wsV RX8 291 RX8 yX8_takeNumber wsX8_takeNumber) := goodIn_app (goodIn_of _ (by decide +kernel)) ggX8_takeRow_X8_takeNumber
set_option maxRecDepth 20000 in
theorem ggX8_takeRow_X8_want : GoodIn wsX8_takeRow wsX8_want := goodIn_r _ [24, 1, 25, 26, 27, 28, 29, 30, 31, 32, 33, 34, 35, 36, 37, 38, 39, 40, 41, 42, 43, 44, 45, 46, 47, 48, 49, 50, 51, 52, 53, 54, 55, 56, 57, 58, 59, 60, 61, 62, 63, 64, 65, 66] (by decide +kernel) (by decide +kernel)
set_option maxRecDepth 20000 in
theorem gX8_takeRow_X8_want : GoodIn wsX8_takeRow (wsV RX8 287 RX8 yX8_want wsX8_want) := goodIn_app (goodIn_of _ (by decide +kernel)) ggX8_takeRow_X8_want
set_option maxRecDepth 20000 in
theorem ggX8_takeRow_X8_here : GoodIn wsX8_takeRow wsX8_here := goodIn_r _ [17, 6, 12, 13, 26, 27, 28, 29, 30, 31, 32, 33, 34, 35, 36, 37, 38, 39, 40, 41, 42, 43, 44, 45, 46, 47, 48, 49, 50, 51, 52, 53, 54, 55, 56, 57, 58, 59, 60, 61, 62, 63, 64, 65, 66] (by decide +kernel) (by decide +kernel)
set_option maxRecDepth 20000 in
theorem gX8_takeRow_X8_here : GoodIn wsX8_takeRow (wsV RX8 266 RX8 yX8_here wsX8_here) := goodIn_app (goodIn_of _ (by decide +kernel)) ggX8_takeRow_X8_here
set_option maxRecDepth 20000 in
theorem ggX8_takeRow_X8_in : GoodIn wsX8_takeRow wsX8_in := goodIn_r _ [20] (by decide +kernel) (by decide +kernel)
set_option maxRecDepth 20000 in
theorem gX8_takeRow_X8_in : GoodIn wsX8_takeRow (va_wsS RX8 99 yX8_in wsX8_in) := goodIn_app (goodIn_of _ (by decide +kernel)) ggX8_takeRow_X8_in
theorem dX8_takeRow_0 : decode cX8_takeRow 0 = .ok (.iconst 0, 1) := by decide +kernel
theorem dX8_takeRow_1 : decode cX8_takeRow 1 = .ok (.istore_n 1, 1) := by decide +kernel
theorem dX8_takeRow_2 : decode cX8_takeRow 2 = .ok (.iconst 0, 1) := by decide +kernel
theorem dX8_takeRow_3 : decode cX8_takeRow 3 = .ok (.istore_n 2, 1) := by decide +kernel
theorem dX8_takeRow_4 : decode cX8_takeRow 4 = .ok (.iconst 1, 1) := by decide +kernel
theorem dX8_takeRow_5 : decode cX8_takeRow 5 = .ok (.istore_n 3, 1) := by decide +kernel
theorem dX8_takeRow_6 : decode cX8_takeRow 6 = .ok (.iload_n 3, 1) := by decide +kernel
theorem dX8_takeRow_7 : decode cX8_takeRow 7 = .ok (.ifCond .eq 100, 3) := by decide +kernel
theorem dX8_takeRow_10 : decode cX8_takeRow 10 = .ok (.aload_n 0, 1) := by decide +kernel
theorem dX8_takeRow_11 : decode cX8_takeRow 11 = .ok (.getfield 263, 3) := by decide +kernel
theorem dX8_takeRow_14 : decode cX8_takeRow 14 = .ok (.ifCond .ne 93, 3) := by decide +kernel
theorem dX8_takeRow_17 : decode cX8_takeRow 17 = .ok (.aload_n 0, 1) := by decide +kernel
theorem dX8_takeRow_18 : decode cX8_takeRow 18 = .ok (.iconst 0, 1) := by decide +kernel
theorem dX8_takeRow_19 : decode cX8_takeRow 19 = .ok (.aload_n 0, 1) := by decide +kernel
theorem dX8_takeRow_20 : decode cX8_takeRow 20 = .ok (.getfield 86, 3) := by decide +kernel
theorem dX8_takeRow_23 : decode cX8_takeRow 23 = .ok (.iconst 1, 1) := by decide +kernel
theorem dX8_takeRow_24 : decode cX8_takeRow 24 = .ok (.isub, 1) := by decide +kernel
theorem dX8_takeRow_25 : decode cX8_takeRow 25 = .ok (.invokevirtual 291, 3) := by decide +kernel
theorem dX8_takeRow_28 : decode cX8_takeRow 28 = .ok (.istore 4, 2) := by decide +kernel
theorem dX8_takeRow_30 : decode cX8_takeRow 30 = .ok (.aload_n 0, 1) := by decide +kernel
theorem dX8_takeRow_31 : decode cX8_takeRow 31 = .ok (.iload_n 2, 1) := by decide +kernel
theorem dX8_takeRow_32 : decode cX8_takeRow 32 = .ok (.iload 4, 2) := by decide +kernel
theorem dX8_takeRow_34 : decode cX8_takeRow 34 = .ok (.bipush 30, 2) := by decide +kernel
theorem dX8_takeRow_36 : decode cX8_takeRow 36 = .ok (.if_icmp .ge 8, 3) := by decide +kernel
theorem dX8_takeRow_39 : decode cX8_takeRow 39 = .ok (.iload 4, 2) := by decide +kernel
theorem dX8_takeRow_41 : decode cX8_takeRow 41 = .ok (.goto 4, 3) := by decide +kernel
theorem dX8_takeRow_44 : decode cX8_takeRow 44 = .ok (.iconst 0, 1) := by decide +kernel
theorem dX8_takeRow_45 : decode cX8_takeRow 45 = .ok (.ishr, 1) := by decide +kernel
theorem dX8_takeRow_46 : decode cX8_takeRow 46 = .ok (.iconst 1, 1) := by decide +kernel
theorem dX8_takeRow_47 : decode cX8_takeRow 47 = .ok (.iand, 1) := by decide +kernel
theorem dX8_takeRow_48 : decode cX8_takeRow 48 = .ok (.ifCond .eq 10, 3) := by decide +kernel
theorem dX8_takeRow_51 : decode cX8_takeRow 51 = .ok (.aload_n 0, 1) := by decide +kernel
theorem dX8_takeRow_52 : decode cX8_takeRow 52 = .ok (.getfield 263, 3) := by decide +kernel
theorem dX8_takeRow_55 : decode cX8_takeRow 55 = .ok (.ifCond .le 7, 3) := by decide +kernel
theorem dX8_takeRow_58 : decode cX8_takeRow 58 = .ok (.iconst 1, 1) := by decide +kernel
theorem dX8_takeRow_59 : decode cX8_takeRow 59 = .ok (.goto 4, 3) := by decide +kernel
theorem dX8_takeRow_62 : decode cX8_takeRow 62 = .ok (.iconst 0, 1) := by decide +kernel
theorem dX8_takeRow_63 : decode cX8_takeRow 63 = .ok (.iconst 3, 1) := by decide +kernel
theorem dX8_takeRow_64 : decode cX8_takeRow 64 = .ok (.aload_n 0, 1) := by decide +kernel
theorem dX8_takeRow_65 : decode cX8_takeRow 65 = .ok (.getfield 269, 3) := by decide +kernel
theorem dX8_takeRow_68 : decode cX8_takeRow 68 = .ok (.invokevirtual 287, 3) := by decide +kernel
theorem dX8_takeRow_71 : decode cX8_takeRow 71 = .ok (.ifCond .eq 33, 3) := by decide +kernel
theorem dX8_takeRow_74 : decode cX8_takeRow 74 = .ok (.iload_n 2, 1) := by decide +kernel
theorem dX8_takeRow_75 : decode cX8_takeRow 75 = .ok (.iconst 1, 1) := by decide +kernel
theorem dX8_takeRow_76 : decode cX8_takeRow 76 = .ok (.iload 4, 2) := by decide +kernel
theorem dX8_takeRow_78 : decode cX8_takeRow 78 = .ok (.ishl, 1) := by decide +kernel
theorem dX8_takeRow_79 : decode cX8_takeRow 79 = .ok (.ior, 1) := by decide +kernel
theorem dX8_takeRow_80 : decode cX8_takeRow 80 = .ok (.istore_n 2, 1) := by decide +kernel
theorem dX8_takeRow_81 : decode cX8_takeRow 81 = .ok (.bipush 10, 2) := by decide +kernel
theorem dX8_takeRow_83 : decode cX8_takeRow 83 = .ok (.iload_n 1, 1) := by decide +kernel
theorem dX8_takeRow_84 : decode cX8_takeRow 84 = .ok (.imul, 1) := by decide +kernel
theorem dX8_takeRow_85 : decode cX8_takeRow 85 = .ok (.iload 4, 2) := by decide +kernel
theorem dX8_takeRow_87 : decode cX8_takeRow 87 = .ok (.iadd, 1) := by decide +kernel
theorem dX8_takeRow_88 : decode cX8_takeRow 88 = .ok (.istore_n 1, 1) := by decide +kernel
theorem dX8_takeRow_89 : decode cX8_takeRow 89 = .ok (.aload_n 0, 1) := by decide +kernel
theorem dX8_takeRow_90 : decode cX8_takeRow 90 = .ok (.invokevirtual 266, 3) := by decide +kernel
theorem dX8_takeRow_93 : decode cX8_takeRow 93 = .ok (.i2l, 1) := by decide +kernel
theorem dX8_takeRow_94 : decode cX8_takeRow 94 = .ok (.ldc2_w 283, 3) := by decide +kernel
theorem dX8_takeRow_97 : decode cX8_takeRow 97 = .ok (.ldc2_w 285, 3) := by decide +kernel
theorem dX8_takeRow_100 : decode cX8_takeRow 100 = .ok (.invokestatic 99, 3) := by decide +kernel
theorem dX8_takeRow_103 : decode cX8_takeRow 103 = .ok (.istore_n 3, 1) := by decide +kernel
theorem dX8_takeRow_104 : decode cX8_takeRow 104 = .ok (.goto (-98), 3) := by decide +kernel
theorem dX8_takeRow_107 : decode cX8_takeRow 107 = .ok (.aload_n 0, 1) := by decide +kernel
theorem dX8_takeRow_108 : decode cX8_takeRow 108 = .ok (.invokevirtual 266, 3) := by decide +kernel
theorem dX8_takeRow_111 : decode cX8_takeRow 111 = .ok (.istore 4, 2) := by decide +kernel
theorem dX8_takeRow_113 : decode cX8_takeRow 113 = .ok (.aload_n 0, 1) := by decide +kernel
theorem dX8_takeRow_114 : decode cX8_takeRow 114 = .ok (.getfield 263, 3) := by decide +kernel
theorem dX8_takeRow_117 : decode cX8_takeRow 117 = .ok (.ifCond .ne 55, 3) := by decide +kernel
theorem dX8_takeRow_120 : decode cX8_takeRow 120 = .ok (.aload_n 0, 1) := by decide +kernel
theorem dX8_takeRow_121 : decode cX8_takeRow 121 = .ok (.iload 4, 2) := by decide +kernel
theorem dX8_takeRow_123 : decode cX8_takeRow 123 = .ok (.bipush 59, 2) := by decide +kernel
theorem dX8_takeRow_125 : decode cX8_takeRow 125 = .ok (.if_icmp .ne 7, 3) := by decide +kernel
theorem dX8_takeRow_128 : decode cX8_takeRow 128 = .ok (.iconst 1, 1) := by decide +kernel
theorem dX8_takeRow_129 : decode cX8_takeRow 129 = .ok (.goto 4, 3) := by decide +kernel
theorem dX8_takeRow_132 : decode cX8_takeRow 132 = .ok (.iconst 0, 1) := by decide +kernel
theorem dX8_takeRow_133 : decode cX8_takeRow 133 = .ok (.iconst 1, 1) := by decide +kernel
theorem dX8_takeRow_134 : decode cX8_takeRow 134 = .ok (.aload_n 0, 1) := by decide +kernel
theorem dX8_takeRow_135 : decode cX8_takeRow 135 = .ok (.getfield 260, 3) := by decide +kernel
theorem dX8_takeRow_138 : decode cX8_takeRow 138 = .ok (.invokevirtual 287, 3) := by decide +kernel
theorem dX8_takeRow_141 : decode cX8_takeRow 141 = .ok (.ifCond .eq 31, 3) := by decide +kernel
theorem dX8_takeRow_144 : decode cX8_takeRow 144 = .ok (.aload_n 0, 1) := by decide +kernel
theorem dX8_takeRow_145 : decode cX8_takeRow 145 = .ok (.iload_n 2, 1) := by decide +kernel
theorem dX8_takeRow_146 : decode cX8_takeRow 146 = .ok (.iconst 1, 1) := by decide +kernel
theorem dX8_takeRow_147 : decode cX8_takeRow 147 = .ok (.aload_n 0, 1) := by decide +kernel
theorem dX8_takeRow_148 : decode cX8_takeRow 148 = .ok (.getfield 86, 3) := by decide +kernel
theorem dX8_takeRow_151 : decode cX8_takeRow 151 = .ok (.ishl, 1) := by decide +kernel
theorem dX8_takeRow_152 : decode cX8_takeRow 152 = .ok (.iconst 1, 1) := by decide +kernel
theorem dX8_takeRow_153 : decode cX8_takeRow 153 = .ok (.isub, 1) := by decide +kernel
theorem dX8_takeRow_154 : decode cX8_takeRow 154 = .ok (.if_icmp .ne 7, 3) := by decide +kernel
theorem dX8_takeRow_157 : decode cX8_takeRow 157 = .ok (.iconst 1, 1) := by decide +kernel
theorem dX8_takeRow_158 : decode cX8_takeRow 158 = .ok (.goto 4, 3) := by decide +kernel
theorem dX8_takeRow_161 : decode cX8_takeRow 161 = .ok (.iconst 0, 1) := by decide +kernel
theorem dX8_takeRow_162 : decode cX8_takeRow 162 = .ok (.iconst 4, 1) := by decide +kernel
theorem dX8_takeRow_163 : decode cX8_takeRow 163 = .ok (.aload_n 0, 1) := by decide +kernel
theorem dX8_takeRow_164 : decode cX8_takeRow 164 = .ok (.getfield 260, 3) := by decide +kernel
theorem dX8_takeRow_167 : decode cX8_takeRow 167 = .ok (.invokevirtual 287, 3) := by decide +kernel
theorem dX8_takeRow_170 : decode cX8_takeRow 170 = .ok (.istore 5, 2) := by decide +kernel
theorem dX8_takeRow_172 : decode cX8_takeRow 172 = .ok (.iload_n 1, 1) := by decide +kernel
theorem dX8_takeRow_173 : decode cX8_takeRow 173 = .ok (.ireturn, 1) := by decide +kernel
set_option maxRecDepth 20000 in
theorem ggX8_readClause_X8_takeWord : GoodIn wsX8_readClause wsX8_takeWord := goodIn_r _ [13, 8, 1, 14, 15, 16, 17, 18, 19, 20, 21, 12, 22, 23, 24, 25, 49, 50, 51, 52, 53, 54, 55, 56, 57, 58, 59, 60, 61, 62, 63, 64, 65, 66, 67, 68, 69, 70, 71, 72, 73, 74, 75, 76, 77, 78, 79, 80, 81, 82, 83, 84, 85, 86, 87, 88, 89] (by decide +kernel) (by decide +kernel)
set_option maxRecDepth 20000 in
theorem gX8_readClause_X8_takeWord : GoodIn wsX8_readClause (wsV RX8 294 RX8 yX8_takeWord wsX8_takeWord) := goodIn_app (goodIn_of _ (by decide +kernel)) ggX8_readClause_X8_takeWord
set_option maxRecDepth 20000 in
theorem ggX8_readClause_X8_clauseOf : GoodIn wsX8_readClause wsX8_clauseOf := goodIn_r _ [29, 30, 31, 32, 12, 33, 18, 15, 1, 49, 50, 51, 52, 53, 54, 55, 56, 57, 58, 59, 60, 61, 62, 63, 64, 65, 66, 67, 68, 69, 70, 71, 72, 73, 74, 75, 76, 77, 78, 79, 80, 81, 82, 83, 84, 85, 86, 87, 88, 89] (by decide +kernel) (by decide +kernel)
set_option maxRecDepth 20000 in
theorem gX8_readClause_X8_clauseOf : GoodIn wsX8_readClause (wsV RX8 297 RX8 yX8_clauseOf wsX8_clauseOf) := goodIn_app (goodIn_of _ (by decide +kernel)) ggX8_readClause_X8_clauseOf
set_option maxRecDepth 20000 in
theorem ggX8_readClause_X8_want : GoodIn wsX8_readClause wsX8_want := goodIn_r _ [37, 6, 38, 49, 50, 51, 52, 53, 54, 55, 56, 57, 58, 59, 60, 61, 62, 63, 64, 65, 66, 67, 68, 69, 70, 71, 72, 73, 74, 75, 76, 77, 78, 79, 80, 81, 82, 83, 84, 85, 86, 87, 88, 89] (by decide +kernel) (by decide +kernel)
set_option maxRecDepth 20000 in
theorem gX8_readClause_X8_want : GoodIn wsX8_readClause (wsV RX8 287 RX8 yX8_want wsX8_want) := goodIn_app (goodIn_of _ (by decide +kernel)) ggX8_readClause_X8_want
set_option maxRecDepth 20000 in
theorem ggX8_readClause_X8_takeRow : GoodIn wsX8_readClause wsX8_takeRow := goodIn_r _ [42, 6, 5, 1, 43, 44, 8, 45, 46, 47, 12, 48, 14, 15, 19, 20, 21, 22, 23, 24, 25, 34, 35, 36, 37, 38, 49, 50, 51, 52, 53, 54, 55, 56, 57, 58, 59, 60, 61, 62, 63, 64, 65, 66, 67, 68, 69, 70, 71, 72, 73, 74, 75, 76, 77, 78, 79, 80, 81, 82, 83, 84, 85, 86, 87, 88, 89] (by decide +kernel) (by decide +kernel)
set_option maxRecDepth 20000 in
theorem gX8_readClause_X8_takeRow : GoodIn wsX8_readClause (wsV RX8 303 RX8 yX8_takeRow wsX8_takeRow) := goodIn_app (goodIn_of _ (by decide +kernel)) ggX8_readClause_X8_takeRow
set_option maxRecDepth 20000 in
theorem ggX8_readClause_X8_takeNumber : GoodIn wsX8_readClause wsX8_takeNumber := goodIn_r _ [48, 8, 1, 43, 44, 14, 15, 19, 20, 21, 12, 22, 23, 24, 25, 34, 35, 36, 37, 6, 38, 49, 50, 51, 52, 53, 54, 55, 56, 57, 58, 59, 60, 61, 62, 63, 64, 65, 66, 67, 68, 69, 70, 71, 72, 73, 74, 75, 76, 77, 78, 79, 80, 81, 82, 83, 84, 85, 86, 87, 88, 89] (by decide +kernel) (by decide +kernel)
set_option maxRecDepth 20000 in
theorem gX8_readClause_X8_takeNumber : GoodIn wsX8_readClause (wsV RX8 291 RX8 yX8_takeNumber wsX8_takeNumber) := goodIn_app (goodIn_of _ (by decide +kernel)) ggX8_readClause_X8_takeNumber
set_option maxRecDepth 20000 in
theorem ggX8_readClause_X8_isWord : GoodIn wsX8_readClause wsX8_isWord := goodIn_r _ [33, 18, 15, 1, 49, 50, 51, 52, 53, 54, 55, 56, 57, 58, 59, 60, 61, 62, 63, 64, 65, 66, 67, 68, 69, 70, 71, 72, 73, 74, 75, 76, 77, 78, 79, 80, 81, 82, 83, 84, 85, 86, 87, 88, 89] (by decide +kernel) (by decide +kernel)
set_option maxRecDepth 20000 in
theorem gX8_readClause_X8_isWord : GoodIn wsX8_readClause (wsV RX8 279 RX8 yX8_isWord wsX8_isWord) := goodIn_app (goodIn_of _ (by decide +kernel)) ggX8_readClause_X8_isWord
set_option maxRecDepth 20000 in
theorem ggX8_readClause_X8_here : GoodIn wsX8_readClause wsX8_here := goodIn_r _ [22, 8, 14, 15, 49, 50, 51, 52, 53, 54, 55, 56, 57, 58, 59, 60, 61, 62, 63, 64, 65, 66, 67, 68, 69, 70, 71, 72, 73, 74, 75, 76, 77, 78, 79, 80, 81, 82, 83, 84, 85, 86, 87, 88, 89] (by decide +kernel) (by decide +kernel)
set_option maxRecDepth 20000 in
theorem gX8_readClause_X8_here : GoodIn wsX8_readClause (wsV RX8 266 RX8 yX8_here wsX8_here) := goodIn_app (goodIn_of _ (by decide +kernel)) ggX8_readClause_X8_here
theorem dX8_readClause_0 : decode cX8_readClause 0 = .ok (.aload_n 0, 1) := by decide +kernel
theorem dX8_readClause_1 : decode cX8_readClause 1 = .ok (.invokevirtual 294, 3) := by decide +kernel
theorem dX8_readClause_4 : decode cX8_readClause 4 = .ok (.aload_n 0, 1) := by decide +kernel
theorem dX8_readClause_5 : decode cX8_readClause 5 = .ok (.invokevirtual 297, 3) := by decide +kernel
theorem dX8_readClause_8 : decode cX8_readClause 8 = .ok (.istore_n 1, 1) := by decide +kernel
theorem dX8_readClause_9 : decode cX8_readClause 9 = .ok (.aload_n 0, 1) := by decide +kernel
theorem dX8_readClause_10 : decode cX8_readClause 10 = .ok (.iload_n 1, 1) := by decide +kernel
theorem dX8_readClause_11 : decode cX8_readClause 11 = .ok (.ifCond .lt 7, 3) := by decide +kernel
theorem dX8_readClause_14 : decode cX8_readClause 14 = .ok (.iconst 1, 1) := by decide +kernel
theorem dX8_readClause_15 : decode cX8_readClause 15 = .ok (.goto 4, 3) := by decide +kernel
theorem dX8_readClause_18 : decode cX8_readClause 18 = .ok (.iconst 0, 1) := by decide +kernel
theorem dX8_readClause_19 : decode cX8_readClause 19 = .ok (.iconst 1, 1) := by decide +kernel
theorem dX8_readClause_20 : decode cX8_readClause 20 = .ok (.aload_n 0, 1) := by decide +kernel
theorem dX8_readClause_21 : decode cX8_readClause 21 = .ok (.getfield 269, 3) := by decide +kernel
theorem dX8_readClause_24 : decode cX8_readClause 24 = .ok (.invokevirtual 287, 3) := by decide +kernel
theorem dX8_readClause_27 : decode cX8_readClause 27 = .ok (.ifCond .eq 29, 3) := by decide +kernel
theorem dX8_readClause_30 : decode cX8_readClause 30 = .ok (.aload_n 0, 1) := by decide +kernel
theorem dX8_readClause_31 : decode cX8_readClause 31 = .ok (.aload_n 0, 1) := by decide +kernel
theorem dX8_readClause_32 : decode cX8_readClause 32 = .ok (.getfield 300, 3) := by decide +kernel
theorem dX8_readClause_35 : decode cX8_readClause 35 = .ok (.bipush 12, 2) := by decide +kernel
theorem dX8_readClause_37 : decode cX8_readClause 37 = .ok (.if_icmp .ge 7, 3) := by decide +kernel
theorem dX8_readClause_40 : decode cX8_readClause 40 = .ok (.iconst 1, 1) := by decide +kernel
theorem dX8_readClause_41 : decode cX8_readClause 41 = .ok (.goto 4, 3) := by decide +kernel
theorem dX8_readClause_44 : decode cX8_readClause 44 = .ok (.iconst 0, 1) := by decide +kernel
theorem dX8_readClause_45 : decode cX8_readClause 45 = .ok (.iconst 5, 1) := by decide +kernel
theorem dX8_readClause_46 : decode cX8_readClause 46 = .ok (.aload_n 0, 1) := by decide +kernel
theorem dX8_readClause_47 : decode cX8_readClause 47 = .ok (.getfield 269, 3) := by decide +kernel
theorem dX8_readClause_50 : decode cX8_readClause 50 = .ok (.invokevirtual 287, 3) := by decide +kernel
theorem dX8_readClause_53 : decode cX8_readClause 53 = .ok (.ifCond .ne 4, 3) := by decide +kernel
theorem dX8_readClause_56 : decode cX8_readClause 56 = .ok (.return_, 1) := by decide +kernel
theorem dX8_readClause_57 : decode cX8_readClause 57 = .ok (.aload_n 0, 1) := by decide +kernel
theorem dX8_readClause_58 : decode cX8_readClause 58 = .ok (.getfield 73, 3) := by decide +kernel
theorem dX8_readClause_61 : decode cX8_readClause 61 = .ok (.aload_n 0, 1) := by decide +kernel
theorem dX8_readClause_62 : decode cX8_readClause 62 = .ok (.getfield 300, 3) := by decide +kernel
theorem dX8_readClause_65 : decode cX8_readClause 65 = .ok (.iload_n 1, 1) := by decide +kernel
theorem dX8_readClause_66 : decode cX8_readClause 66 = .ok (.iastore, 1) := by decide +kernel
theorem dX8_readClause_67 : decode cX8_readClause 67 = .ok (.aload_n 0, 1) := by decide +kernel
theorem dX8_readClause_68 : decode cX8_readClause 68 = .ok (.getfield 76, 3) := by decide +kernel
theorem dX8_readClause_71 : decode cX8_readClause 71 = .ok (.aload_n 0, 1) := by decide +kernel
theorem dX8_readClause_72 : decode cX8_readClause 72 = .ok (.getfield 300, 3) := by decide +kernel
theorem dX8_readClause_75 : decode cX8_readClause 75 = .ok (.iload_n 1, 1) := by decide +kernel
theorem dX8_readClause_76 : decode cX8_readClause 76 = .ok (.iconst 5, 1) := by decide +kernel
theorem dX8_readClause_77 : decode cX8_readClause 77 = .ok (.if_icmp .ne 10, 3) := by decide +kernel
theorem dX8_readClause_80 : decode cX8_readClause 80 = .ok (.aload_n 0, 1) := by decide +kernel
theorem dX8_readClause_81 : decode cX8_readClause 81 = .ok (.invokevirtual 303, 3) := by decide +kernel
theorem dX8_readClause_84 : decode cX8_readClause 84 = .ok (.goto 30, 3) := by decide +kernel
theorem dX8_readClause_87 : decode cX8_readClause 87 = .ok (.iload_n 1, 1) := by decide +kernel
theorem dX8_readClause_88 : decode cX8_readClause 88 = .ok (.iconst 1, 1) := by decide +kernel
theorem dX8_readClause_89 : decode cX8_readClause 89 = .ok (.if_icmp .ne 14, 3) := by decide +kernel
theorem dX8_readClause_92 : decode cX8_readClause 92 = .ok (.aload_n 0, 1) := by decide +kernel
theorem dX8_readClause_93 : decode cX8_readClause 93 = .ok (.iconst 1, 1) := by decide +kernel
theorem dX8_readClause_94 : decode cX8_readClause 94 = .ok (.sipush 900, 3) := by decide +kernel
theorem dX8_readClause_97 : decode cX8_readClause 97 = .ok (.invokevirtual 291, 3) := by decide +kernel
theorem dX8_readClause_100 : decode cX8_readClause 100 = .ok (.goto 14, 3) := by decide +kernel
theorem dX8_readClause_103 : decode cX8_readClause 103 = .ok (.aload_n 0, 1) := by decide +kernel
theorem dX8_readClause_104 : decode cX8_readClause 104 = .ok (.iconst 0, 1) := by decide +kernel
theorem dX8_readClause_105 : decode cX8_readClause 105 = .ok (.aload_n 0, 1) := by decide +kernel
theorem dX8_readClause_106 : decode cX8_readClause 106 = .ok (.getfield 86, 3) := by decide +kernel
theorem dX8_readClause_109 : decode cX8_readClause 109 = .ok (.iconst 1, 1) := by decide +kernel
theorem dX8_readClause_110 : decode cX8_readClause 110 = .ok (.isub, 1) := by decide +kernel
theorem dX8_readClause_111 : decode cX8_readClause 111 = .ok (.invokevirtual 291, 3) := by decide +kernel
theorem dX8_readClause_114 : decode cX8_readClause 114 = .ok (.iastore, 1) := by decide +kernel
theorem dX8_readClause_115 : decode cX8_readClause 115 = .ok (.iload_n 1, 1) := by decide +kernel
theorem dX8_readClause_116 : decode cX8_readClause 116 = .ok (.ifCond .eq 8, 3) := by decide +kernel
theorem dX8_readClause_119 : decode cX8_readClause 119 = .ok (.iload_n 1, 1) := by decide +kernel
theorem dX8_readClause_120 : decode cX8_readClause 120 = .ok (.iconst 2, 1) := by decide +kernel
theorem dX8_readClause_121 : decode cX8_readClause 121 = .ok (.if_icmp .ne 98, 3) := by decide +kernel
theorem dX8_readClause_124 : decode cX8_readClause 124 = .ok (.aload_n 0, 1) := by decide +kernel
theorem dX8_readClause_125 : decode cX8_readClause 125 = .ok (.getfield 263, 3) := by decide +kernel
theorem dX8_readClause_128 : decode cX8_readClause 128 = .ok (.ifCond .ne 91, 3) := by decide +kernel
theorem dX8_readClause_131 : decode cX8_readClause 131 = .ok (.aload_n 0, 1) := by decide +kernel
theorem dX8_readClause_132 : decode cX8_readClause 132 = .ok (.invokevirtual 294, 3) := by decide +kernel
theorem dX8_readClause_135 : decode cX8_readClause 135 = .ok (.aload_n 0, 1) := by decide +kernel
theorem dX8_readClause_136 : decode cX8_readClause 136 = .ok (.iload_n 1, 1) := by decide +kernel
theorem dX8_readClause_137 : decode cX8_readClause 137 = .ok (.ifCond .ne 18, 3) := by decide +kernel
theorem dX8_readClause_140 : decode cX8_readClause 140 = .ok (.aload_n 0, 1) := by decide +kernel
theorem dX8_readClause_141 : decode cX8_readClause 141 = .ok (.iconst 2, 1) := by decide +kernel
theorem dX8_readClause_142 : decode cX8_readClause 142 = .ok (.bipush 116, 2) := by decide +kernel
theorem dX8_readClause_144 : decode cX8_readClause 144 = .ok (.bipush 111, 2) := by decide +kernel
theorem dX8_readClause_146 : decode cX8_readClause 146 = .ok (.iconst 0, 1) := by decide +kernel
theorem dX8_readClause_147 : decode cX8_readClause 147 = .ok (.iconst 0, 1) := by decide +kernel
theorem dX8_readClause_148 : decode cX8_readClause 148 = .ok (.iconst 0, 1) := by decide +kernel
theorem dX8_readClause_149 : decode cX8_readClause 149 = .ok (.invokevirtual 279, 3) := by decide +kernel
theorem dX8_readClause_152 : decode cX8_readClause 152 = .ok (.goto 15, 3) := by decide +kernel
theorem dX8_readClause_155 : decode cX8_readClause 155 = .ok (.aload_n 0, 1) := by decide +kernel
theorem dX8_readClause_156 : decode cX8_readClause 156 = .ok (.iconst 2, 1) := by decide +kernel
theorem dX8_readClause_157 : decode cX8_readClause 157 = .ok (.bipush 98, 2) := by decide +kernel
theorem dX8_readClause_159 : decode cX8_readClause 159 = .ok (.bipush 121, 2) := by decide +kernel
theorem dX8_readClause_161 : decode cX8_readClause 161 = .ok (.iconst 0, 1) := by decide +kernel
theorem dX8_readClause_162 : decode cX8_readClause 162 = .ok (.iconst 0, 1) := by decide +kernel
theorem dX8_readClause_163 : decode cX8_readClause 163 = .ok (.iconst 0, 1) := by decide +kernel
theorem dX8_readClause_164 : decode cX8_readClause 164 = .ok (.invokevirtual 279, 3) := by decide +kernel
theorem dX8_readClause_167 : decode cX8_readClause 167 = .ok (.iconst 1, 1) := by decide +kernel
theorem dX8_readClause_168 : decode cX8_readClause 168 = .ok (.aload_n 0, 1) := by decide +kernel
theorem dX8_readClause_169 : decode cX8_readClause 169 = .ok (.getfield 269, 3) := by decide +kernel
theorem dX8_readClause_172 : decode cX8_readClause 172 = .ok (.invokevirtual 287, 3) := by decide +kernel
theorem dX8_readClause_175 : decode cX8_readClause 175 = .ok (.istore_n 2, 1) := by decide +kernel
theorem dX8_readClause_176 : decode cX8_readClause 176 = .ok (.aload_n 0, 1) := by decide +kernel
theorem dX8_readClause_177 : decode cX8_readClause 177 = .ok (.getfield 79, 3) := by decide +kernel
theorem dX8_readClause_180 : decode cX8_readClause 180 = .ok (.aload_n 0, 1) := by decide +kernel
theorem dX8_readClause_181 : decode cX8_readClause 181 = .ok (.getfield 300, 3) := by decide +kernel
theorem dX8_readClause_184 : decode cX8_readClause 184 = .ok (.aload_n 0, 1) := by decide +kernel
theorem dX8_readClause_185 : decode cX8_readClause 185 = .ok (.getfield 263, 3) := by decide +kernel
theorem dX8_readClause_188 : decode cX8_readClause 188 = .ok (.ifCond .le 7, 3) := by decide +kernel
theorem dX8_readClause_191 : decode cX8_readClause 191 = .ok (.iconst 0, 1) := by decide +kernel
theorem dX8_readClause_192 : decode cX8_readClause 192 = .ok (.goto 26, 3) := by decide +kernel
theorem dX8_readClause_195 : decode cX8_readClause 195 = .ok (.iload_n 1, 1) := by decide +kernel
theorem dX8_readClause_196 : decode cX8_readClause 196 = .ok (.ifCond .ne 14, 3) := by decide +kernel
theorem dX8_readClause_199 : decode cX8_readClause 199 = .ok (.aload_n 0, 1) := by decide +kernel
theorem dX8_readClause_200 : decode cX8_readClause 200 = .ok (.iconst 1, 1) := by decide +kernel
theorem dX8_readClause_201 : decode cX8_readClause 201 = .ok (.sipush 900, 3) := by decide +kernel
theorem dX8_readClause_204 : decode cX8_readClause 204 = .ok (.invokevirtual 291, 3) := by decide +kernel
theorem dX8_readClause_207 : decode cX8_readClause 207 = .ok (.goto 11, 3) := by decide +kernel
theorem dX8_readClause_210 : decode cX8_readClause 210 = .ok (.aload_n 0, 1) := by decide +kernel
theorem dX8_readClause_211 : decode cX8_readClause 211 = .ok (.iconst 0, 1) := by decide +kernel
theorem dX8_readClause_212 : decode cX8_readClause 212 = .ok (.sipush 200, 3) := by decide +kernel
theorem dX8_readClause_215 : decode cX8_readClause 215 = .ok (.invokevirtual 291, 3) := by decide +kernel
theorem dX8_readClause_218 : decode cX8_readClause 218 = .ok (.iastore, 1) := by decide +kernel
theorem dX8_readClause_219 : decode cX8_readClause 219 = .ok (.aload_n 0, 1) := by decide +kernel
theorem dX8_readClause_220 : decode cX8_readClause 220 = .ok (.invokevirtual 266, 3) := by decide +kernel
theorem dX8_readClause_223 : decode cX8_readClause 223 = .ok (.istore_n 2, 1) := by decide +kernel
theorem dX8_readClause_224 : decode cX8_readClause 224 = .ok (.aload_n 0, 1) := by decide +kernel
theorem dX8_readClause_225 : decode cX8_readClause 225 = .ok (.getfield 263, 3) := by decide +kernel
theorem dX8_readClause_228 : decode cX8_readClause 228 = .ok (.ifCond .ne 46, 3) := by decide +kernel
theorem dX8_readClause_231 : decode cX8_readClause 231 = .ok (.aload_n 0, 1) := by decide +kernel
theorem dX8_readClause_232 : decode cX8_readClause 232 = .ok (.iload_n 2, 1) := by decide +kernel
theorem dX8_readClause_233 : decode cX8_readClause 233 = .ok (.bipush 59, 2) := by decide +kernel
theorem dX8_readClause_235 : decode cX8_readClause 235 = .ok (.if_icmp .ne 7, 3) := by decide +kernel
theorem dX8_readClause_238 : decode cX8_readClause 238 = .ok (.iconst 1, 1) := by decide +kernel
theorem dX8_readClause_239 : decode cX8_readClause 239 = .ok (.goto 4, 3) := by decide +kernel
theorem dX8_readClause_242 : decode cX8_readClause 242 = .ok (.iconst 0, 1) := by decide +kernel
theorem dX8_readClause_243 : decode cX8_readClause 243 = .ok (.iconst 1, 1) := by decide +kernel
theorem dX8_readClause_244 : decode cX8_readClause 244 = .ok (.aload_n 0, 1) := by decide +kernel
theorem dX8_readClause_245 : decode cX8_readClause 245 = .ok (.getfield 260, 3) := by decide +kernel
theorem dX8_readClause_248 : decode cX8_readClause 248 = .ok (.invokevirtual 287, 3) := by decide +kernel
theorem dX8_readClause_251 : decode cX8_readClause 251 = .ok (.ifCond .eq 23, 3) := by decide +kernel
theorem dX8_readClause_254 : decode cX8_readClause 254 = .ok (.aload_n 0, 1) := by decide +kernel
theorem dX8_readClause_255 : decode cX8_readClause 255 = .ok (.dup, 1) := by decide +kernel
theorem dX8_readClause_256 : decode cX8_readClause 256 = .ok (.getfield 260, 3) := by decide +kernel
theorem dX8_readClause_259 : decode cX8_readClause 259 = .ok (.iconst 1, 1) := by decide +kernel
theorem dX8_readClause_260 : decode cX8_readClause 260 = .ok (.iadd, 1) := by decide +kernel
theorem dX8_readClause_261 : decode cX8_readClause 261 = .ok (.putfield 260, 3) := by decide +kernel
theorem dX8_readClause_264 : decode cX8_readClause 264 = .ok (.aload_n 0, 1) := by decide +kernel
theorem dX8_readClause_265 : decode cX8_readClause 265 = .ok (.dup, 1) := by decide +kernel
theorem dX8_readClause_266 : decode cX8_readClause 266 = .ok (.getfield 300, 3) := by decide +kernel
theorem dX8_readClause_269 : decode cX8_readClause 269 = .ok (.iconst 1, 1) := by decide +kernel
theorem dX8_readClause_270 : decode cX8_readClause 270 = .ok (.iadd, 1) := by decide +kernel
theorem dX8_readClause_271 : decode cX8_readClause 271 = .ok (.putfield 300, 3) := by decide +kernel
theorem dX8_readClause_274 : decode cX8_readClause 274 = .ok (.return_, 1) := by decide +kernel
set_option maxRecDepth 20000 in
theorem ggX8_doOne_X8_draw : GoodIn wsX8_doOne wsX8_draw := goodIn_r _ [10, 11, 12, 5, 13, 14, 15, 16, 9, 17, 18, 19, 20, 21, 22, 23, 24, 25, 26, 27, 28, 29, 30, 31, 32, 33, 34, 35, 36, 37, 38, 39, 40, 41, 42, 43, 44, 45, 46, 47, 48, 49, 4, 50, 51, 52, 53, 54, 55, 56, 57, 58, 59, 60, 61, 62, 63, 64, 65, 66, 67, 68, 69, 70, 100, 101, 102, 103, 104, 105, 106, 107, 108, 109, 110, 111, 112, 113, 114, 115, 116, 117, 118, 119, 120, 121, 122, 123, 124, 125, 126, 127, 128, 129, 130, 131, 132, 133, 134, 135, 136, 137, 138, 139, 140] (by decide +kernel) (by decide +kernel)
set_option maxRecDepth 20000 in
theorem gX8_doOne_X8_draw : GoodIn wsX8_doOne (wsV RX8 306 RX8 yX8_draw wsX8_draw) := goodIn_app (goodIn_of _ (by decide +kernel)) ggX8_doOne_X8_draw
set_option maxRecDepth 20000 in
theorem ggX8_doOne_X8_pass : GoodIn wsX8_doOne wsX8_pass := goodIn_r _ [74, 12, 13, 22, 23, 9, 24, 25, 19, 20, 21, 75, 76, 77, 78, 18, 5, 79, 26, 27, 28, 29, 30, 31, 32, 33, 34, 35, 36, 37, 38, 39, 40, 41, 42, 43, 44, 45, 46, 47, 48, 49, 4, 50, 51, 52, 53, 54, 55, 56, 57, 58, 59, 60, 61, 62, 63, 64, 65, 66, 67, 68, 69, 70, 100, 101, 102, 103, 104, 105, 106, 107, 108, 109, 110, 111, 112, 113, 114, 115, 116, 117, 118, 119, 120, 121, 122, 123, 124, 125, 126, 127, 128, 129, 130, 131, 132, 133, 134, 135, 136, 137, 138, 139, 140] (by decide +kernel) (by decide +kernel)
set_option maxRecDepth 20000 in
theorem gX8_doOne_X8_pass : GoodIn wsX8_doOne (wsV RX8 309 RX8 yX8_pass wsX8_pass) := goodIn_app (goodIn_of _ (by decide +kernel)) ggX8_doOne_X8_pass
set_option maxRecDepth 20000 in
theorem ggX8_doOne_X8_broken : GoodIn wsX8_doOne wsX8_broken := goodIn_r _ [83, 11, 5, 13, 14, 15, 16, 9, 17, 18, 19, 20, 21, 84, 85, 86, 87, 88, 89, 90, 100, 101, 102, 103, 104, 105, 106, 107, 108, 109, 110, 111, 112, 113, 114, 115, 116, 117, 118, 119, 120, 121, 122, 123, 124, 125, 126, 127, 128, 129, 130, 131, 132, 133, 134, 135, 136, 137, 138, 139, 140] (by decide +kernel) (by decide +kernel)
set_option maxRecDepth 20000 in
theorem gX8_doOne_X8_broken : GoodIn wsX8_doOne (wsV RX8 312 RX8 yX8_broken wsX8_broken) := goodIn_app (goodIn_of _ (by decide +kernel)) ggX8_doOne_X8_broken
set_option maxRecDepth 20000 in
theorem ggX8_doOne_X8_row : GoodIn wsX8_doOne wsX8_row := goodIn_r _ [94, 12, 18, 79, 95, 96, 97, 98, 9, 99, 100, 101, 102, 103, 104, 105, 106, 107, 108, 109, 110, 111, 112, 113, 114, 115, 116, 117, 118, 119, 120, 121, 122, 123, 124, 125, 126, 127, 128, 129, 130, 131, 132, 133, 134, 135, 136, 137, 138, 139, 140] (by decide +kernel) (by decide +kernel)
set_option maxRecDepth 20000 in
theorem gX8_doOne_X8_row : GoodIn wsX8_doOne (wsV RX8 316 RX8 yX8_row wsX8_row) := goodIn_app (goodIn_of _ (by decide +kernel)) ggX8_doOne_X8_row
theorem dX8_doOne_0 : decode cX8_doOne 0 = .ok (.aload_n 0, 1) := by decide +kernel
theorem dX8_doOne_1 : decode cX8_doOne 1 = .ok (.getfield 76, 3) := by decide +kernel
theorem dX8_doOne_4 : decode cX8_doOne 4 = .ok (.iload_n 1, 1) := by decide +kernel
theorem dX8_doOne_5 : decode cX8_doOne 5 = .ok (.iaload, 1) := by decide +kernel
theorem dX8_doOne_6 : decode cX8_doOne 6 = .ok (.istore_n 2, 1) := by decide +kernel
theorem dX8_doOne_7 : decode cX8_doOne 7 = .ok (.aload_n 0, 1) := by decide +kernel
theorem dX8_doOne_8 : decode cX8_doOne 8 = .ok (.getfield 73, 3) := by decide +kernel
theorem dX8_doOne_11 : decode cX8_doOne 11 = .ok (.iload_n 1, 1) := by decide +kernel
theorem dX8_doOne_12 : decode cX8_doOne 12 = .ok (.iaload, 1) := by decide +kernel
theorem dX8_doOne_13 : decode cX8_doOne 13 = .ok (.tableswitch 131 0 4 #[35, 55, 69, 83, 107], 35) := by decide +kernel
