theorem dX0_above_0 : decode cX0_above 0 = .ok (.iload_n 0, 1) := by decide +kernel
theorem dX0_above_1 : decode cX0_above 1 = .ok (.ifCond .lt 19, 3) := by decide +kernel
theorem dX0_above_4 : decode cX0_above 4 = .ok (.iload_n 0, 1) := by decide +kernel
theorem dX0_above_5 : decode cX0_above 5 = .ok (.getstatic 7, 3) := by decide +kernel
theorem dX0_above_8 : decode cX0_above 8 = .ok (.arraylength, 1) := by decide +kernel
theorem dX0_above_9 : decode cX0_above 9 = .ok (.if_icmp .ge 11, 3) := by decide +kernel
theorem dX0_above_12 : decode cX0_above 12 = .ok (.getstatic 7, 3) := by decide +kernel
theorem dX0_above_15 : decode cX0_above 15 = .ok (.iload_n 0, 1) := by decide +kernel
theorem dX0_above_16 : decode cX0_above 16 = .ok (.iaload, 1) := by decide +kernel
theorem dX0_above_17 : decode cX0_above 17 = .ok (.goto 4, 3) := by decide +kernel
theorem dX0_above_20 : decode cX0_above 20 = .ok (.iconst 0, 1) := by decide +kernel
theorem dX0_above_21 : decode cX0_above 21 = .ok (.ireturn, 1) := by decide +kernel
set_option maxRecDepth 20000 in
theorem ggX0_isOf_X0_above : GoodIn wsX0_isOf wsX0_above := goodIn_r _ [4, 5] (by decide +kernel) (by decide +kernel)
set_option maxRecDepth 20000 in
theorem gX0_isOf_X0_above : GoodIn wsX0_isOf (va_wsS RX0 13 yX0_above wsX0_above) := goodIn_app (goodIn_of _ (by decide +kernel)) ggX0_isOf_X0_above
theorem dX0_isOf_0 : decode cX0_isOf 0 = .ok (.iload_n 0, 1) := by decide +kernel
theorem dX0_isOf_1 : decode cX0_isOf 1 = .ok (.iload_n 1, 1) := by decide +kernel
theorem dX0_isOf_2 : decode cX0_isOf 2 = .ok (.if_icmp .eq 22, 3) := by decide +kernel
theorem dX0_isOf_5 : decode cX0_isOf 5 = .ok (.iload_n 0, 1) := by decide +kernel
theorem dX0_isOf_6 : decode cX0_isOf 6 = .ok (.invokestatic 13, 3) := by decide +kernel
theorem dX0_isOf_9 : decode cX0_isOf 9 = .ok (.iload_n 1, 1) := by decide +kernel
theorem dX0_isOf_10 : decode cX0_isOf 10 = .ok (.if_icmp .eq 14, 3) := by decide +kernel
theorem dX0_isOf_13 : decode cX0_isOf 13 = .ok (.iload_n 0, 1) := by decide +kernel
theorem dX0_isOf_14 : decode cX0_isOf 14 = .ok (.invokestatic 13, 3) := by decide +kernel
theorem dX0_isOf_17 : decode cX0_isOf 17 = .ok (.invokestatic 13, 3) := by decide +kernel
theorem dX0_isOf_20 : decode cX0_isOf 20 = .ok (.iload_n 1, 1) := by decide +kernel
theorem dX0_isOf_21 : decode cX0_isOf 21 = .ok (.if_icmp .ne 7, 3) := by decide +kernel
theorem dX0_isOf_24 : decode cX0_isOf 24 = .ok (.iconst 1, 1) := by decide +kernel
theorem dX0_isOf_25 : decode cX0_isOf 25 = .ok (.goto 4, 3) := by decide +kernel
theorem dX0_isOf_28 : decode cX0_isOf 28 = .ok (.iconst 0, 1) := by decide +kernel
theorem dX0_isOf_29 : decode cX0_isOf 29 = .ok (.ireturn, 1) := by decide +kernel
theorem dX0_looksAt_0 : decode cX0_looksAt 0 = .ok (.iload_n 0, 1) := by decide +kernel
theorem dX0_looksAt_1 : decode cX0_looksAt 1 = .ok (.tableswitch 95 1 6 #[39, 55, 72, 46, 55, 93], 39) := by decide +kernel
theorem dX0_looksAt_40 : decode cX0_looksAt 40 = .ok (.aload_n 2, 1) := by decide +kernel
theorem dX0_looksAt_41 : decode cX0_looksAt 41 = .ok (.getfield 17, 3) := by decide +kernel
theorem dX0_looksAt_44 : decode cX0_looksAt 44 = .ok (.iconst 2, 1) := by decide +kernel
theorem dX0_looksAt_45 : decode cX0_looksAt 45 = .ok (.irem, 1) := by decide +kernel
theorem dX0_looksAt_46 : decode cX0_looksAt 46 = .ok (.ireturn, 1) := by decide +kernel
theorem dX0_looksAt_47 : decode cX0_looksAt 47 = .ok (.iconst 1, 1) := by decide +kernel
theorem dX0_looksAt_48 : decode cX0_looksAt 48 = .ok (.aload_n 2, 1) := by decide +kernel
theorem dX0_looksAt_49 : decode cX0_looksAt 49 = .ok (.getfield 17, 3) := by decide +kernel
theorem dX0_looksAt_52 : decode cX0_looksAt 52 = .ok (.iconst 2, 1) := by decide +kernel
theorem dX0_looksAt_53 : decode cX0_looksAt 53 = .ok (.irem, 1) := by decide +kernel
theorem dX0_looksAt_54 : decode cX0_looksAt 54 = .ok (.isub, 1) := by decide +kernel
theorem dX0_looksAt_55 : decode cX0_looksAt 55 = .ok (.ireturn, 1) := by decide +kernel
theorem dX0_looksAt_56 : decode cX0_looksAt 56 = .ok (.iload_n 1, 1) := by decide +kernel
theorem dX0_looksAt_57 : decode cX0_looksAt 57 = .ok (.iconst 4, 1) := by decide +kernel
theorem dX0_looksAt_58 : decode cX0_looksAt 58 = .ok (.if_icmp .le 11, 3) := by decide +kernel
theorem dX0_looksAt_61 : decode cX0_looksAt 61 = .ok (.iconst 1, 1) := by decide +kernel
theorem dX0_looksAt_62 : decode cX0_looksAt 62 = .ok (.iload_n 1, 1) := by decide +kernel
theorem dX0_looksAt_63 : decode cX0_looksAt 63 = .ok (.iconst 2, 1) := by decide +kernel
theorem dX0_looksAt_64 : decode cX0_looksAt 64 = .ok (.irem, 1) := by decide +kernel
theorem dX0_looksAt_65 : decode cX0_looksAt 65 = .ok (.isub, 1) := by decide +kernel
theorem dX0_looksAt_66 : decode cX0_looksAt 66 = .ok (.goto 6, 3) := by decide +kernel
theorem dX0_looksAt_69 : decode cX0_looksAt 69 = .ok (.iload_n 1, 1) := by decide +kernel
theorem dX0_looksAt_70 : decode cX0_looksAt 70 = .ok (.iconst 2, 1) := by decide +kernel
theorem dX0_looksAt_71 : decode cX0_looksAt 71 = .ok (.irem, 1) := by decide +kernel
theorem dX0_looksAt_72 : decode cX0_looksAt 72 = .ok (.ireturn, 1) := by decide +kernel
theorem dX0_looksAt_73 : decode cX0_looksAt 73 = .ok (.aload_n 2, 1) := by decide +kernel
theorem dX0_looksAt_74 : decode cX0_looksAt 74 = .ok (.getfield 23, 3) := by decide +kernel
theorem dX0_looksAt_77 : decode cX0_looksAt 77 = .ok (.iconst 0, 1) := by decide +kernel
theorem dX0_looksAt_78 : decode cX0_looksAt 78 = .ok (.iaload, 1) := by decide +kernel
theorem dX0_looksAt_79 : decode cX0_looksAt 79 = .ok (.aload_n 2, 1) := by decide +kernel
theorem dX0_looksAt_80 : decode cX0_looksAt 80 = .ok (.getfield 23, 3) := by decide +kernel
theorem dX0_looksAt_83 : decode cX0_looksAt 83 = .ok (.iconst 1, 1) := by decide +kernel
theorem dX0_looksAt_84 : decode cX0_looksAt 84 = .ok (.iaload, 1) := by decide +kernel
theorem dX0_looksAt_85 : decode cX0_looksAt 85 = .ok (.if_icmp .gt 7, 3) := by decide +kernel
theorem dX0_looksAt_88 : decode cX0_looksAt 88 = .ok (.iconst 0, 1) := by decide +kernel
theorem dX0_looksAt_89 : decode cX0_looksAt 89 = .ok (.goto 4, 3) := by decide +kernel
theorem dX0_looksAt_92 : decode cX0_looksAt 92 = .ok (.iconst 1, 1) := by decide +kernel
theorem dX0_looksAt_93 : decode cX0_looksAt 93 = .ok (.ireturn, 1) := by decide +kernel
theorem dX0_looksAt_94 : decode cX0_looksAt 94 = .ok (.iconst 0, 1) := by decide +kernel
theorem dX0_looksAt_95 : decode cX0_looksAt 95 = .ok (.ireturn, 1) := by decide +kernel
theorem dX0_looksAt_96 : decode cX0_looksAt 96 = .ok (.iload_n 1, 1) := by decide +kernel
theorem dX0_looksAt_97 : decode cX0_looksAt 97 = .ok (.iconst 2, 1) := by decide +kernel
theorem dX0_looksAt_98 : decode cX0_looksAt 98 = .ok (.irem, 1) := by decide +kernel
theorem dX0_looksAt_99 : decode cX0_looksAt 99 = .ok (.ireturn, 1) := by decide +kernel
theorem dX0_readsOf_0 : decode cX0_readsOf 0 = .ok (.iload_n 0, 1) := by decide +kernel
theorem dX0_readsOf_1 : decode cX0_readsOf 1 = .ok (.tableswitch 86 1 6 #[39, 57, 70, 47, 61, 74], 39) := by decide +kernel
theorem dX0_readsOf_40 : decode cX0_readsOf 40 = .ok (.iconst 2, 1) := by decide +kernel
theorem dX0_readsOf_41 : decode cX0_readsOf 41 = .ok (.iload_n 2, 1) := by decide +kernel
theorem dX0_readsOf_42 : decode cX0_readsOf 42 = .ok (.imul, 1) := by decide +kernel
theorem dX0_readsOf_43 : decode cX0_readsOf 43 = .ok (.iload_n 3, 1) := by decide +kernel
theorem dX0_readsOf_44 : decode cX0_readsOf 44 = .ok (.iconst 3, 1) := by decide +kernel
theorem dX0_readsOf_45 : decode cX0_readsOf 45 = .ok (.irem, 1) := by decide +kernel
theorem dX0_readsOf_46 : decode cX0_readsOf 46 = .ok (.iadd, 1) := by decide +kernel
theorem dX0_readsOf_47 : decode cX0_readsOf 47 = .ok (.ireturn, 1) := by decide +kernel
theorem dX0_readsOf_48 : decode cX0_readsOf 48 = .ok (.iconst 2, 1) := by decide +kernel
theorem dX0_readsOf_49 : decode cX0_readsOf 49 = .ok (.iload_n 2, 1) := by decide +kernel
theorem dX0_readsOf_50 : decode cX0_readsOf 50 = .ok (.imul, 1) := by decide +kernel
theorem dX0_readsOf_51 : decode cX0_readsOf 51 = .ok (.iload_n 3, 1) := by decide +kernel
theorem dX0_readsOf_52 : decode cX0_readsOf 52 = .ok (.iconst 3, 1) := by decide +kernel
theorem dX0_readsOf_53 : decode cX0_readsOf 53 = .ok (.irem, 1) := by decide +kernel
theorem dX0_readsOf_54 : decode cX0_readsOf 54 = .ok (.iadd, 1) := by decide +kernel
theorem dX0_readsOf_55 : decode cX0_readsOf 55 = .ok (.iconst 3, 1) := by decide +kernel
theorem dX0_readsOf_56 : decode cX0_readsOf 56 = .ok (.iadd, 1) := by decide +kernel
theorem dX0_readsOf_57 : decode cX0_readsOf 57 = .ok (.ireturn, 1) := by decide +kernel
theorem dX0_readsOf_58 : decode cX0_readsOf 58 = .ok (.iload_n 2, 1) := by decide +kernel
theorem dX0_readsOf_59 : decode cX0_readsOf 59 = .ok (.iload_n 1, 1) := by decide +kernel
theorem dX0_readsOf_60 : decode cX0_readsOf 60 = .ok (.iadd, 1) := by decide +kernel
theorem dX0_readsOf_61 : decode cX0_readsOf 61 = .ok (.ireturn, 1) := by decide +kernel
theorem dX0_readsOf_62 : decode cX0_readsOf 62 = .ok (.iload_n 2, 1) := by decide +kernel
theorem dX0_readsOf_63 : decode cX0_readsOf 63 = .ok (.iload_n 1, 1) := by decide +kernel
theorem dX0_readsOf_64 : decode cX0_readsOf 64 = .ok (.iadd, 1) := by decide +kernel
theorem dX0_readsOf_65 : decode cX0_readsOf 65 = .ok (.iconst 2, 1) := by decide +kernel
theorem dX0_readsOf_66 : decode cX0_readsOf 66 = .ok (.idiv, 1) := by decide +kernel
theorem dX0_readsOf_67 : decode cX0_readsOf 67 = .ok (.iload 4, 2) := by decide +kernel
theorem dX0_readsOf_69 : decode cX0_readsOf 69 = .ok (.iadd, 1) := by decide +kernel
theorem dX0_readsOf_70 : decode cX0_readsOf 70 = .ok (.ireturn, 1) := by decide +kernel
theorem dX0_readsOf_71 : decode cX0_readsOf 71 = .ok (.iload_n 2, 1) := by decide +kernel
theorem dX0_readsOf_72 : decode cX0_readsOf 72 = .ok (.iconst 2, 1) := by decide +kernel
theorem dX0_readsOf_73 : decode cX0_readsOf 73 = .ok (.irem, 1) := by decide +kernel
theorem dX0_readsOf_74 : decode cX0_readsOf 74 = .ok (.ireturn, 1) := by decide +kernel
theorem dX0_readsOf_75 : decode cX0_readsOf 75 = .ok (.iload_n 1, 1) := by decide +kernel
theorem dX0_readsOf_76 : decode cX0_readsOf 76 = .ok (.bipush 9, 2) := by decide +kernel
theorem dX0_readsOf_78 : decode cX0_readsOf 78 = .ok (.if_icmp .ne 7, 3) := by decide +kernel
theorem dX0_readsOf_81 : decode cX0_readsOf 81 = .ok (.iload_n 2, 1) := by decide +kernel
theorem dX0_readsOf_82 : decode cX0_readsOf 82 = .ok (.goto 4, 3) := by decide +kernel
theorem dX0_readsOf_85 : decode cX0_readsOf 85 = .ok (.iconst 0, 1) := by decide +kernel
theorem dX0_readsOf_86 : decode cX0_readsOf 86 = .ok (.ireturn, 1) := by decide +kernel
theorem dX0_readsOf_87 : decode cX0_readsOf 87 = .ok (.iload_n 2, 1) := by decide +kernel
theorem dX0_readsOf_88 : decode cX0_readsOf 88 = .ok (.ireturn, 1) := by decide +kernel
theorem dX1_init_0 : decode cX1_init 0 = .ok (.aload_n 0, 1) := by decide +kernel
theorem dX1_init_1 : decode cX1_init 1 = .ok (.invokespecial 3, 3) := by decide +kernel
theorem dX1_init_4 : decode cX1_init 4 = .ok (.aload_n 0, 1) := by decide +kernel
theorem dX1_init_5 : decode cX1_init 5 = .ok (.bipush 60, 2) := by decide +kernel
theorem dX1_init_7 : decode cX1_init 7 = .ok (.newarray .int, 2) := by decide +kernel
theorem dX1_init_9 : decode cX1_init 9 = .ok (.putfield 9, 3) := by decide +kernel
theorem dX1_init_12 : decode cX1_init 12 = .ok (.aload_n 0, 1) := by decide +kernel
theorem dX1_init_13 : decode cX1_init 13 = .ok (.bipush 60, 2) := by decide +kernel
theorem dX1_init_15 : decode cX1_init 15 = .ok (.newarray .int, 2) := by decide +kernel
theorem dX1_init_17 : decode cX1_init 17 = .ok (.putfield 15, 3) := by decide +kernel
theorem dX1_init_20 : decode cX1_init 20 = .ok (.aload_n 0, 1) := by decide +kernel
theorem dX1_init_21 : decode cX1_init 21 = .ok (.iload_n 1, 1) := by decide +kernel
theorem dX1_init_22 : decode cX1_init 22 = .ok (.putfield 18, 3) := by decide +kernel
theorem dX1_init_25 : decode cX1_init 25 = .ok (.aload_n 0, 1) := by decide +kernel
theorem dX1_init_26 : decode cX1_init 26 = .ok (.iload_n 2, 1) := by decide +kernel
theorem dX1_init_27 : decode cX1_init 27 = .ok (.putfield 22, 3) := by decide +kernel
theorem dX1_init_30 : decode cX1_init 30 = .ok (.aload_n 0, 1) := by decide +kernel
theorem dX1_init_31 : decode cX1_init 31 = .ok (.iload_n 3, 1) := by decide +kernel
theorem dX1_init_32 : decode cX1_init 32 = .ok (.putfield 25, 3) := by decide +kernel
theorem dX1_init_35 : decode cX1_init 35 = .ok (.aload_n 0, 1) := by decide +kernel
theorem dX1_init_36 : decode cX1_init 36 = .ok (.iconst 0, 1) := by decide +kernel
theorem dX1_init_37 : decode cX1_init 37 = .ok (.iload_n 2, 1) := by decide +kernel
theorem dX1_init_38 : decode cX1_init 38 = .ok (.iload_n 3, 1) := by decide +kernel
theorem dX1_init_39 : decode cX1_init 39 = .ok (.imul, 1) := by decide +kernel
theorem dX1_init_40 : decode cX1_init 40 = .ok (.bipush 8, 2) := by decide +kernel
theorem dX1_init_42 : decode cX1_init 42 = .ok (.imul, 1) := by decide +kernel
theorem dX1_init_43 : decode cX1_init 43 = .ok (.invokestatic 28, 3) := by decide +kernel
theorem dX1_init_46 : decode cX1_init 46 = .ok (.newarray .int, 2) := by decide +kernel
theorem dX1_init_48 : decode cX1_init 48 = .ok (.putfield 34, 3) := by decide +kernel
theorem dX1_init_51 : decode cX1_init 51 = .ok (.return_, 1) := by decide +kernel
set_option maxRecDepth 20000 in
theorem ggX1_take_J7_fill_53178 : GoodIn wsX1_take wsJ7_fill_53178 := goodIn_r _ [18] (by decide +kernel) (by decide +kernel)
set_option maxRecDepth 20000 in
theorem gX1_take_J7_fill_53178 : GoodIn wsX1_take (va_wsS RX1 49 yJ7_fill_53178 wsJ7_fill_53178) := goodIn_app (goodIn_of _ (by decide +kernel)) ggX1_take_J7_fill_53178
theorem dX1_take_0 : decode cX1_take 0 = .ok (.aload_n 0, 1) := by decide +kernel
theorem dX1_take_1 : decode cX1_take 1 = .ok (.iconst 0, 1) := by decide +kernel
theorem dX1_take_2 : decode cX1_take 2 = .ok (.iload_n 2, 1) := by decide +kernel
theorem dX1_take_3 : decode cX1_take 3 = .ok (.aload_n 1, 1) := by decide +kernel
theorem dX1_take_4 : decode cX1_take 4 = .ok (.arraylength, 1) := by decide +kernel
theorem dX1_take_5 : decode cX1_take 5 = .ok (.aload_n 0, 1) := by decide +kernel
theorem dX1_take_6 : decode cX1_take 6 = .ok (.getfield 9, 3) := by decide +kernel
theorem dX1_take_9 : decode cX1_take 9 = .ok (.arraylength, 1) := by decide +kernel
theorem dX1_take_10 : decode cX1_take 10 = .ok (.invokestatic 37, 3) := by decide +kernel
theorem dX1_take_13 : decode cX1_take 13 = .ok (.invokestatic 37, 3) := by decide +kernel
theorem dX1_take_16 : decode cX1_take 16 = .ok (.invokestatic 28, 3) := by decide +kernel
theorem dX1_take_19 : decode cX1_take 19 = .ok (.putfield 40, 3) := by decide +kernel
theorem dX1_take_22 : decode cX1_take 22 = .ok (.aload_n 1, 1) := by decide +kernel
theorem dX1_take_23 : decode cX1_take 23 = .ok (.iconst 0, 1) := by decide +kernel
theorem dX1_take_24 : decode cX1_take 24 = .ok (.aload_n 0, 1) := by decide +kernel
theorem dX1_take_25 : decode cX1_take 25 = .ok (.getfield 9, 3) := by decide +kernel
theorem dX1_take_28 : decode cX1_take 28 = .ok (.iconst 0, 1) := by decide +kernel
theorem dX1_take_29 : decode cX1_take 29 = .ok (.aload_n 0, 1) := by decide +kernel
theorem dX1_take_30 : decode cX1_take 30 = .ok (.getfield 40, 3) := by decide +kernel
theorem dX1_take_33 : decode cX1_take 33 = .ok (.invokestatic 43, 3) := by decide +kernel
theorem dX1_take_36 : decode cX1_take 36 = .ok (.aload_n 0, 1) := by decide +kernel
theorem dX1_take_37 : decode cX1_take 37 = .ok (.getfield 34, 3) := by decide +kernel
theorem dX1_take_40 : decode cX1_take 40 = .ok (.iconst 0, 1) := by decide +kernel
theorem dX1_take_41 : decode cX1_take 41 = .ok (.invokestatic 49, 3) := by decide +kernel
theorem dX1_take_44 : decode cX1_take 44 = .ok (.return_, 1) := by decide +kernel
set_option maxRecDepth 20000 in
theorem ggX1_drop_J7_fill_53178 : GoodIn wsX1_drop wsJ7_fill_53178 := goodIn_r _ [6] (by decide +kernel) (by decide +kernel)
set_option maxRecDepth 20000 in
theorem gX1_drop_J7_fill_53178 : GoodIn wsX1_drop (va_wsS RX1 49 yJ7_fill_53178 wsJ7_fill_53178) := goodIn_app (goodIn_of _ (by decide +kernel)) ggX1_drop_J7_fill_53178
theorem dX1_drop_0 : decode cX1_drop 0 = .ok (.aload_n 0, 1) := by decide +kernel
theorem dX1_drop_1 : decode cX1_drop 1 = .ok (.iconst 0, 1) := by decide +kernel
theorem dX1_drop_2 : decode cX1_drop 2 = .ok (.putfield 40, 3) := by decide +kernel
theorem dX1_drop_5 : decode cX1_drop 5 = .ok (.aload_n 0, 1) := by decide +kernel
theorem dX1_drop_6 : decode cX1_drop 6 = .ok (.getfield 34, 3) := by decide +kernel
theorem dX1_drop_9 : decode cX1_drop 9 = .ok (.iconst 0, 1) := by decide +kernel
theorem dX1_drop_10 : decode cX1_drop 10 = .ok (.invokestatic 49, 3) := by decide +kernel
theorem dX1_drop_13 : decode cX1_drop 13 = .ok (.return_, 1) := by decide +kernel
set_option maxRecDepth 20000 in
theorem ggX1_gives_X1_placeOf : GoodIn wsX1_gives wsX1_placeOf := goodIn_r _ [6, 7, 8, 27, 28, 29, 30, 31, 32, 33] (by decide +kernel) (by decide +kernel)
set_option maxRecDepth 20000 in
theorem gX1_gives_X1_placeOf : GoodIn wsX1_gives (wsV RX1 55 RX1 yX1_placeOf wsX1_placeOf) := goodIn_app (goodIn_of _ (by decide +kernel)) ggX1_gives_X1_placeOf
set_option maxRecDepth 20000 in
theorem ggX1_gives_X1_work : GoodIn wsX1_gives wsX1_work := goodIn_r _ [12, 13, 14, 15, 16, 17, 18, 19, 20, 21, 22, 23, 24, 25, 5, 26, 27, 28, 29, 30, 31, 32, 33] (by decide +kernel) (by decide +kernel)
set_option maxRecDepth 20000 in
theorem gX1_gives_X1_work : GoodIn wsX1_gives (wsV RX1 59 RX1 yX1_work wsX1_work) := goodIn_app (goodIn_of _ (by decide +kernel)) ggX1_gives_X1_work
theorem dX1_gives_0 : decode cX1_gives 0 = .ok (.aload_n 0, 1) := by decide +kernel
theorem dX1_gives_1 : decode cX1_gives 1 = .ok (.iload_n 1, 1) := by decide +kernel
theorem dX1_gives_2 : decode cX1_gives 2 = .ok (.iload_n 2, 1) := by decide +kernel
theorem dX1_gives_3 : decode cX1_gives 3 = .ok (.iload_n 3, 1) := by decide +kernel
theorem dX1_gives_4 : decode cX1_gives 4 = .ok (.invokevirtual 55, 3) := by decide +kernel
theorem dX1_gives_7 : decode cX1_gives 7 = .ok (.istore 4, 2) := by decide +kernel
theorem dX1_gives_9 : decode cX1_gives 9 = .ok (.iload 4, 2) := by decide +kernel
theorem dX1_gives_11 : decode cX1_gives 11 = .ok (.ifCond .ge 11, 3) := by decide +kernel
theorem dX1_gives_14 : decode cX1_gives 14 = .ok (.aload_n 0, 1) := by decide +kernel
theorem dX1_gives_15 : decode cX1_gives 15 = .ok (.iload_n 1, 1) := by decide +kernel
theorem dX1_gives_16 : decode cX1_gives 16 = .ok (.iload_n 2, 1) := by decide +kernel
theorem dX1_gives_17 : decode cX1_gives 17 = .ok (.iload_n 3, 1) := by decide +kernel
theorem dX1_gives_18 : decode cX1_gives 18 = .ok (.invokevirtual 59, 3) := by decide +kernel
theorem dX1_gives_21 : decode cX1_gives 21 = .ok (.ireturn, 1) := by decide +kernel
theorem dX1_gives_22 : decode cX1_gives 22 = .ok (.aload_n 0, 1) := by decide +kernel
theorem dX1_gives_23 : decode cX1_gives 23 = .ok (.getfield 34, 3) := by decide +kernel
theorem dX1_gives_26 : decode cX1_gives 26 = .ok (.iload 4, 2) := by decide +kernel
theorem dX1_gives_28 : decode cX1_gives 28 = .ok (.iaload, 1) := by decide +kernel
theorem dX1_gives_29 : decode cX1_gives 29 = .ok (.ifCond .ne 19, 3) := by decide +kernel
theorem dX1_gives_32 : decode cX1_gives 32 = .ok (.aload_n 0, 1) := by decide +kernel
theorem dX1_gives_33 : decode cX1_gives 33 = .ok (.getfield 34, 3) := by decide +kernel
theorem dX1_gives_36 : decode cX1_gives 36 = .ok (.iload 4, 2) := by decide +kernel
theorem dX1_gives_38 : decode cX1_gives 38 = .ok (.aload_n 0, 1) := by decide +kernel
theorem dX1_gives_39 : decode cX1_gives 39 = .ok (.iload_n 1, 1) := by decide +kernel
theorem dX1_gives_40 : decode cX1_gives 40 = .ok (.iload_n 2, 1) := by decide +kernel
theorem dX1_gives_41 : decode cX1_gives 41 = .ok (.iload_n 3, 1) := by decide +kernel
theorem dX1_gives_42 : decode cX1_gives 42 = .ok (.invokevirtual 59, 3) := by decide +kernel
theorem dX1_gives_45 : decode cX1_gives 45 = .ok (.iconst 1, 1) := by decide +kernel
theorem dX1_gives_46 : decode cX1_gives 46 = .ok (.iadd, 1) := by decide +kernel
theorem dX1_gives_47 : decode cX1_gives 47 = .ok (.iastore, 1) := by decide +kernel
theorem dX1_gives_48 : decode cX1_gives 48 = .ok (.aload_n 0, 1) := by decide +kernel
theorem dX1_gives_49 : decode cX1_gives 49 = .ok (.getfield 34, 3) := by decide +kernel
theorem dX1_gives_52 : decode cX1_gives 52 = .ok (.iload 4, 2) := by decide +kernel
theorem dX1_gives_54 : decode cX1_gives 54 = .ok (.iaload, 1) := by decide +kernel
theorem dX1_gives_55 : decode cX1_gives 55 = .ok (.iconst 1, 1) := by decide +kernel
theorem dX1_gives_56 : decode cX1_gives 56 = .ok (.isub, 1) := by decide +kernel
theorem dX1_gives_57 : decode cX1_gives 57 = .ok (.ireturn, 1) := by decide +kernel
theorem dX1_placeOf_0 : decode cX1_placeOf 0 = .ok (.iload_n 1, 1) := by decide +kernel
theorem dX1_placeOf_1 : decode cX1_placeOf 1 = .ok (.ifCond .lt 33, 3) := by decide +kernel
theorem dX1_placeOf_4 : decode cX1_placeOf 4 = .ok (.iload_n 1, 1) := by decide +kernel
theorem dX1_placeOf_5 : decode cX1_placeOf 5 = .ok (.aload_n 0, 1) := by decide +kernel
theorem dX1_placeOf_6 : decode cX1_placeOf 6 = .ok (.getfield 22, 3) := by decide +kernel
theorem dX1_placeOf_9 : decode cX1_placeOf 9 = .ok (.if_icmp .ge 25, 3) := by decide +kernel
theorem dX1_placeOf_12 : decode cX1_placeOf 12 = .ok (.iload_n 2, 1) := by decide +kernel
theorem dX1_placeOf_13 : decode cX1_placeOf 13 = .ok (.ifCond .lt 21, 3) := by decide +kernel
theorem dX1_placeOf_16 : decode cX1_placeOf 16 = .ok (.iload_n 2, 1) := by decide +kernel
theorem dX1_placeOf_17 : decode cX1_placeOf 17 = .ok (.aload_n 0, 1) := by decide +kernel
theorem dX1_placeOf_18 : decode cX1_placeOf 18 = .ok (.getfield 25, 3) := by decide +kernel
theorem dX1_placeOf_21 : decode cX1_placeOf 21 = .ok (.if_icmp .ge 13, 3) := by decide +kernel
theorem dX1_placeOf_24 : decode cX1_placeOf 24 = .ok (.iload_n 3, 1) := by decide +kernel
theorem dX1_placeOf_25 : decode cX1_placeOf 25 = .ok (.ifCond .lt 9, 3) := by decide +kernel
theorem dX1_placeOf_28 : decode cX1_placeOf 28 = .ok (.iload_n 3, 1) := by decide +kernel
theorem dX1_placeOf_29 : decode cX1_placeOf 29 = .ok (.bipush 8, 2) := by decide +kernel
theorem dX1_placeOf_31 : decode cX1_placeOf 31 = .ok (.if_icmp .lt 5, 3) := by decide +kernel
theorem dX1_placeOf_34 : decode cX1_placeOf 34 = .ok (.iconst (-1), 1) := by decide +kernel
theorem dX1_placeOf_35 : decode cX1_placeOf 35 = .ok (.ireturn, 1) := by decide +kernel
theorem dX1_placeOf_36 : decode cX1_placeOf 36 = .ok (.iload_n 3, 1) := by decide +kernel
theorem dX1_placeOf_37 : decode cX1_placeOf 37 = .ok (.aload_n 0, 1) := by decide +kernel
theorem dX1_placeOf_38 : decode cX1_placeOf 38 = .ok (.getfield 25, 3) := by decide +kernel
theorem dX1_placeOf_41 : decode cX1_placeOf 41 = .ok (.imul, 1) := by decide +kernel
theorem dX1_placeOf_42 : decode cX1_placeOf 42 = .ok (.iload_n 2, 1) := by decide +kernel
theorem dX1_placeOf_43 : decode cX1_placeOf 43 = .ok (.iadd, 1) := by decide +kernel
theorem dX1_placeOf_44 : decode cX1_placeOf 44 = .ok (.aload_n 0, 1) := by decide +kernel
theorem dX1_placeOf_45 : decode cX1_placeOf 45 = .ok (.getfield 22, 3) := by decide +kernel
theorem dX1_placeOf_48 : decode cX1_placeOf 48 = .ok (.imul, 1) := by decide +kernel
theorem dX1_placeOf_49 : decode cX1_placeOf 49 = .ok (.iload_n 1, 1) := by decide +kernel
theorem dX1_placeOf_50 : decode cX1_placeOf 50 = .ok (.iadd, 1) := by decide +kernel
theorem dX1_placeOf_51 : decode cX1_placeOf 51 = .ok (.ireturn, 1) := by decide +kernel
set_option maxRecDepth 20000 in
theorem ggX1_work_X1_join : GoodIn wsX1_work wsX1_join := goodIn_r _ [15] (by decide +kernel) (by decide +kernel)
set_option maxRecDepth 20000 in
theorem gX1_work_X1_join : GoodIn wsX1_work (va_wsS RX1 62 yX1_join wsX1_join) := goodIn_app (goodIn_of _ (by decide +kernel)) ggX1_work_X1_join
theorem dX1_work_0 : decode cX1_work 0 = .ok (.iload_n 1, 1) := by decide +kernel
theorem dX1_work_1 : decode cX1_work 1 = .ok (.istore 4, 2) := by decide +kernel
theorem dX1_work_3 : decode cX1_work 3 = .ok (.iconst 0, 1) := by decide +kernel
theorem dX1_work_4 : decode cX1_work 4 = .ok (.istore 5, 2) := by decide +kernel
theorem dX1_work_6 : decode cX1_work 6 = .ok (.iconst 0, 1) := by decide +kernel
theorem dX1_work_7 : decode cX1_work 7 = .ok (.istore 6, 2) := by decide +kernel
theorem dX1_work_9 : decode cX1_work 9 = .ok (.iload 6, 2) := by decide +kernel
theorem dX1_work_11 : decode cX1_work 11 = .ok (.aload_n 0, 1) := by decide +kernel
theorem dX1_work_12 : decode cX1_work 12 = .ok (.getfield 40, 3) := by decide +kernel
theorem dX1_work_15 : decode cX1_work 15 = .ok (.if_icmp .ge 184, 3) := by decide +kernel
theorem dX1_work_18 : decode cX1_work 18 = .ok (.aload_n 0, 1) := by decide +kernel
theorem dX1_work_19 : decode cX1_work 19 = .ok (.getfield 9, 3) := by decide +kernel
theorem dX1_work_22 : decode cX1_work 22 = .ok (.iload 6, 2) := by decide +kernel
theorem dX1_work_24 : decode cX1_work 24 = .ok (.iaload, 1) := by decide +kernel
theorem dX1_work_25 : decode cX1_work 25 = .ok (.istore 7, 2) := by decide +kernel
theorem dX1_work_27 : decode cX1_work 27 = .ok (.iload 7, 2) := by decide +kernel
theorem dX1_work_29 : decode cX1_work 29 = .ok (.ifCond .lt 10, 3) := by decide +kernel
theorem dX1_work_32 : decode cX1_work 32 = .ok (.iload 7, 2) := by decide +kernel
theorem dX1_work_34 : decode cX1_work 34 = .ok (.istore 4, 2) := by decide +kernel
theorem dX1_work_36 : decode cX1_work 36 = .ok (.goto 130, 3) := by decide +kernel
theorem dX1_work_39 : decode cX1_work 39 = .ok (.iload 7, 2) := by decide +kernel
theorem dX1_work_41 : decode cX1_work 41 = .ok (.bipush (-3), 2) := by decide +kernel
theorem dX1_work_43 : decode cX1_work 43 = .ok (.if_icmp .lt 30, 3) := by decide +kernel
theorem dX1_work_46 : decode cX1_work 46 = .ok (.iload 7, 2) := by decide +kernel
theorem dX1_work_48 : decode cX1_work 48 = .ok (.iconst (-1), 1) := by decide +kernel
theorem dX1_work_49 : decode cX1_work 49 = .ok (.if_icmp .ne 7, 3) := by decide +kernel
theorem dX1_work_52 : decode cX1_work 52 = .ok (.iload_n 1, 1) := by decide +kernel
theorem dX1_work_53 : decode cX1_work 53 = .ok (.goto 15, 3) := by decide +kernel
theorem dX1_work_56 : decode cX1_work 56 = .ok (.iload 7, 2) := by decide +kernel
theorem dX1_work_58 : decode cX1_work 58 = .ok (.bipush (-2), 2) := by decide +kernel
theorem dX1_work_60 : decode cX1_work 60 = .ok (.if_icmp .ne 7, 3) := by decide +kernel
theorem dX1_work_63 : decode cX1_work 63 = .ok (.iload_n 2, 1) := by decide +kernel
theorem dX1_work_64 : decode cX1_work 64 = .ok (.goto 4, 3) := by decide +kernel
theorem dX1_work_67 : decode cX1_work 67 = .ok (.iload_n 3, 1) := by decide +kernel
theorem dX1_work_68 : decode cX1_work 68 = .ok (.istore 4, 2) := by decide +kernel
theorem dX1_work_70 : decode cX1_work 70 = .ok (.goto 96, 3) := by decide +kernel
theorem dX1_work_73 : decode cX1_work 73 = .ok (.iload 7, 2) := by decide +kernel
theorem dX1_work_75 : decode cX1_work 75 = .ok (.bipush (-33), 2) := by decide +kernel
theorem dX1_work_77 : decode cX1_work 77 = .ok (.if_icmp .ne 41, 3) := by decide +kernel
theorem dX1_work_80 : decode cX1_work 80 = .ok (.iinc 5 (-1), 3) := by decide +kernel
theorem dX1_work_83 : decode cX1_work 83 = .ok (.iload 5, 2) := by decide +kernel
theorem dX1_work_85 : decode cX1_work 85 = .ok (.ifCond .lt 27, 3) := by decide +kernel
theorem dX1_work_88 : decode cX1_work 88 = .ok (.iload 5, 2) := by decide +kernel
theorem dX1_work_90 : decode cX1_work 90 = .ok (.aload_n 0, 1) := by decide +kernel
theorem dX1_work_91 : decode cX1_work 91 = .ok (.getfield 15, 3) := by decide +kernel
theorem dX1_work_94 : decode cX1_work 94 = .ok (.arraylength, 1) := by decide +kernel
theorem dX1_work_95 : decode cX1_work 95 = .ok (.if_icmp .ge 17, 3) := by decide +kernel
theorem dX1_work_98 : decode cX1_work 98 = .ok (.aload_n 0, 1) := by decide +kernel
theorem dX1_work_99 : decode cX1_work 99 = .ok (.getfield 15, 3) := by decide +kernel
theorem dX1_work_102 : decode cX1_work 102 = .ok (.iload 5, 2) := by decide +kernel
theorem dX1_work_104 : decode cX1_work 104 = .ok (.iaload, 1) := by decide +kernel
theorem dX1_work_105 : decode cX1_work 105 = .ok (.ifCond .ne 7, 3) := by decide +kernel
theorem dX1_work_108 : decode cX1_work 108 = .ok (.iconst 1, 1) := by decide +kernel
theorem dX1_work_109 : decode cX1_work 109 = .ok (.goto 4, 3) := by decide +kernel
theorem dX1_work_112 : decode cX1_work 112 = .ok (.iconst 0, 1) := by decide +kernel
theorem dX1_work_113 : decode cX1_work 113 = .ok (.istore 4, 2) := by decide +kernel
theorem dX1_work_115 : decode cX1_work 115 = .ok (.goto 51, 3) := by decide +kernel
theorem dX1_work_118 : decode cX1_work 118 = .ok (.iinc 5 (-2), 3) := by decide +kernel
theorem dX1_work_121 : decode cX1_work 121 = .ok (.iload 5, 2) := by decide +kernel
theorem dX1_work_123 : decode cX1_work 123 = .ok (.ifCond .lt 40, 3) := by decide +kernel
theorem dX1_work_126 : decode cX1_work 126 = .ok (.iload 5, 2) := by decide +kernel
theorem dX1_work_128 : decode cX1_work 128 = .ok (.iconst 1, 1) := by decide +kernel
theorem dX1_work_129 : decode cX1_work 129 = .ok (.iadd, 1) := by decide +kernel
theorem dX1_work_130 : decode cX1_work 130 = .ok (.aload_n 0, 1) := by decide +kernel
theorem dX1_work_131 : decode cX1_work 131 = .ok (.getfield 15, 3) := by decide +kernel
theorem dX1_work_134 : decode cX1_work 134 = .ok (.arraylength, 1) := by decide +kernel
theorem dX1_work_135 : decode cX1_work 135 = .ok (.if_icmp .ge 28, 3) := by decide +kernel
theorem dX1_work_138 : decode cX1_work 138 = .ok (.iload 7, 2) := by decide +kernel
theorem dX1_work_140 : decode cX1_work 140 = .ok (.ineg, 1) := by decide +kernel
theorem dX1_work_141 : decode cX1_work 141 = .ok (.aload_n 0, 1) := by decide +kernel
theorem dX1_work_142 : decode cX1_work 142 = .ok (.getfield 15, 3) := by decide +kernel
theorem dX1_work_145 : decode cX1_work 145 = .ok (.iload 5, 2) := by decide +kernel
theorem dX1_work_147 : decode cX1_work 147 = .ok (.iaload, 1) := by decide +kernel
theorem dX1_work_148 : decode cX1_work 148 = .ok (.aload_n 0, 1) := by decide +kernel
theorem dX1_work_149 : decode cX1_work 149 = .ok (.getfield 15, 3) := by decide +kernel
theorem dX1_work_152 : decode cX1_work 152 = .ok (.iload 5, 2) := by decide +kernel
theorem dX1_work_154 : decode cX1_work 154 = .ok (.iconst 1, 1) := by decide +kernel
theorem dX1_work_155 : decode cX1_work 155 = .ok (.iadd, 1) := by decide +kernel
theorem dX1_work_156 : decode cX1_work 156 = .ok (.iaload, 1) := by decide +kernel
theorem dX1_work_157 : decode cX1_work 157 = .ok (.invokestatic 62, 3) := by decide +kernel
theorem dX1_work_160 : decode cX1_work 160 = .ok (.goto 4, 3) := by decide +kernel
theorem dX1_work_163 : decode cX1_work 163 = .ok (.iconst 0, 1) := by decide +kernel
theorem dX1_work_164 : decode cX1_work 164 = .ok (.istore 4, 2) := by decide +kernel
theorem dX1_work_166 : decode cX1_work 166 = .ok (.iload 5, 2) := by decide +kernel
theorem dX1_work_168 : decode cX1_work 168 = .ok (.ifCond .lt 22, 3) := by decide +kernel
theorem dX1_work_171 : decode cX1_work 171 = .ok (.iload 5, 2) := by decide +kernel
theorem dX1_work_173 : decode cX1_work 173 = .ok (.aload_n 0, 1) := by decide +kernel
theorem dX1_work_174 : decode cX1_work 174 = .ok (.getfield 15, 3) := by decide +kernel
theorem dX1_work_177 : decode cX1_work 177 = .ok (.arraylength, 1) := by decide +kernel
theorem dX1_work_178 : decode cX1_work 178 = .ok (.if_icmp .ge 12, 3) := by decide +kernel
theorem dX1_work_181 : decode cX1_work 181 = .ok (.aload_n 0, 1) := by decide +kernel
theorem dX1_work_182 : decode cX1_work 182 = .ok (.getfield 15, 3) := by decide +kernel
theorem dX1_work_185 : decode cX1_work 185 = .ok (.iload 5, 2) := by decide +kernel
theorem dX1_work_187 : decode cX1_work 187 = .ok (.iload 4, 2) := by decide +kernel
theorem dX1_work_189 : decode cX1_work 189 = .ok (.iastore, 1) := by decide +kernel
theorem dX1_work_190 : decode cX1_work 190 = .ok (.iinc 5 1, 3) := by decide +kernel
theorem dX1_work_193 : decode cX1_work 193 = .ok (.iinc 6 1, 3) := by decide +kernel
theorem dX1_work_196 : decode cX1_work 196 = .ok (.goto (-187), 3) := by decide +kernel
theorem dX1_work_199 : decode cX1_work 199 = .ok (.iconst 0, 1) := by decide +kernel
theorem dX1_work_200 : decode cX1_work 200 = .ok (.aload_n 0, 1) := by decide +kernel
theorem dX1_work_201 : decode cX1_work 201 = .ok (.getfield 18, 3) := by decide +kernel
theorem dX1_work_204 : decode cX1_work 204 = .ok (.iload 4, 2) := by decide +kernel
theorem dX1_work_206 : decode cX1_work 206 = .ok (.invokestatic 37, 3) := by decide +kernel
theorem dX1_work_209 : decode cX1_work 209 = .ok (.invokestatic 28, 3) := by decide +kernel
theorem dX1_work_212 : decode cX1_work 212 = .ok (.ireturn, 1) := by decide +kernel
theorem dX1_join_0 : decode cX1_join 0 = .ok (.iload_n 0, 1) := by decide +kernel
theorem dX1_join_1 : decode cX1_join 1 = .ok (.lookupswitch 168 #[(38, 97), (42, 152), (43, 144), (45, 148), (47, 156), (60, 111), (61, 122), (62, 133), (124, 83)], 83) := by decide +kernel
theorem dX1_join_84 : decode cX1_join 84 = .ok (.iload_n 1, 1) := by decide +kernel
theorem dX1_join_85 : decode cX1_join 85 = .ok (.ifCond .ne 7, 3) := by decide +kernel
theorem dX1_join_88 : decode cX1_join 88 = .ok (.iload_n 2, 1) := by decide +kernel
theorem dX1_join_89 : decode cX1_join 89 = .ok (.ifCond .eq 7, 3) := by decide +kernel
theorem dX1_join_92 : decode cX1_join 92 = .ok (.iconst 1, 1) := by decide +kernel
theorem dX1_join_93 : decode cX1_join 93 = .ok (.goto 4, 3) := by decide +kernel
theorem dX1_join_96 : decode cX1_join 96 = .ok (.iconst 0, 1) := by decide +kernel
theorem dX1_join_97 : decode cX1_join 97 = .ok (.ireturn, 1) := by decide +kernel
theorem dX1_join_98 : decode cX1_join 98 = .ok (.iload_n 1, 1) := by decide +kernel
theorem dX1_join_99 : decode cX1_join 99 = .ok (.ifCond .eq 11, 3) := by decide +kernel
theorem dX1_join_102 : decode cX1_join 102 = .ok (.iload_n 2, 1) := by decide +kernel
theorem dX1_join_103 : decode cX1_join 103 = .ok (.ifCond .eq 7, 3) := by decide +kernel
theorem dX1_join_106 : decode cX1_join 106 = .ok (.iconst 1, 1) := by decide +kernel
theorem dX1_join_107 : decode cX1_join 107 = .ok (.goto 4, 3) := by decide +kernel
theorem dX1_join_110 : decode cX1_join 110 = .ok (.iconst 0, 1) := by decide +kernel
theorem dX1_join_111 : decode cX1_join 111 = .ok (.ireturn, 1) := by decide +kernel
theorem dX1_join_112 : decode cX1_join 112 = .ok (.iload_n 1, 1) := by decide +kernel
theorem dX1_join_113 : decode cX1_join 113 = .ok (.iload_n 2, 1) := by decide +kernel
theorem dX1_join_114 : decode cX1_join 114 = .ok (.if_icmp .ge 7, 3) := by decide +kernel
theorem dX1_join_117 : decode cX1_join 117 = .ok (.iconst 1, 1) := by decide +kernel
theorem dX1_join_118 : decode cX1_join 118 = .ok (.goto 4, 3) := by decide +kernel
theorem dX1_join_121 : decode cX1_join 121 = .ok (.iconst 0, 1) := by decide +kernel
theorem dX1_join_122 : decode cX1_join 122 = .ok (.ireturn, 1) := by decide +kernel
theorem dX1_join_123 : decode cX1_join 123 = .ok (.iload_n 1, 1) := by decide +kernel
theorem dX1_join_124 : decode cX1_join 124 = .ok (.iload_n 2, 1) := by decide +kernel
theorem dX1_join_125 : decode cX1_join 125 = .ok (.if_icmp .ne 7, 3) := by decide +kernel
theorem dX1_join_128 : decode cX1_join 128 = .ok (.iconst 1, 1) := by decide +kernel
theorem dX1_join_129 : decode cX1_join 129 = .ok (.goto 4, 3) := by decide +kernel
theorem dX1_join_132 : decode cX1_join 132 = .ok (.iconst 0, 1) := by decide +kernel
theorem dX1_join_133 : decode cX1_join 133 = .ok (.ireturn, 1) := by decide +kernel
theorem dX1_join_134 : decode cX1_join 134 = .ok (.iload_n 1, 1) := by decide +kernel
theorem dX1_join_135 : decode cX1_join 135 = .ok (.iload_n 2, 1) := by decide +kernel
theorem dX1_join_136 : decode cX1_join 136 = .ok (.if_icmp .le 7, 3) := by decide +kernel
theorem dX1_join_139 : decode cX1_join 139 = .ok (.iconst 1, 1) := by decide +kernel
theorem dX1_join_140 : decode cX1_join 140 = .ok (.goto 4, 3) := by decide +kernel
theorem dX1_join_143 : decode cX1_join 143 = .ok (.iconst 0, 1) := by decide +kernel
theorem dX1_join_144 : decode cX1_join 144 = .ok (.ireturn, 1) := by decide +kernel
theorem dX1_join_145 : decode cX1_join 145 = .ok (.iload_n 1, 1) := by decide +kernel
theorem dX1_join_146 : decode cX1_join 146 = .ok (.iload_n 2, 1) := by decide +kernel
theorem dX1_join_147 : decode cX1_join 147 = .ok (.iadd, 1) := by decide +kernel
theorem dX1_join_148 : decode cX1_join 148 = .ok (.ireturn, 1) := by decide +kernel
theorem dX1_join_149 : decode cX1_join 149 = .ok (.iload_n 1, 1) := by decide +kernel
theorem dX1_join_150 : decode cX1_join 150 = .ok (.iload_n 2, 1) := by decide +kernel
theorem dX1_join_151 : decode cX1_join 151 = .ok (.isub, 1) := by decide +kernel
theorem dX1_join_152 : decode cX1_join 152 = .ok (.ireturn, 1) := by decide +kernel
theorem dX1_join_153 : decode cX1_join 153 = .ok (.iload_n 1, 1) := by decide +kernel
theorem dX1_join_154 : decode cX1_join 154 = .ok (.iload_n 2, 1) := by decide +kernel
theorem dX1_join_155 : decode cX1_join 155 = .ok (.imul, 1) := by decide +kernel
theorem dX1_join_156 : decode cX1_join 156 = .ok (.ireturn, 1) := by decide +kernel
theorem dX1_join_157 : decode cX1_join 157 = .ok (.iload_n 2, 1) := by decide +kernel
theorem dX1_join_158 : decode cX1_join 158 = .ok (.ifCond .ne 7, 3) := by decide +kernel
theorem dX1_join_161 : decode cX1_join 161 = .ok (.iconst 0, 1) := by decide +kernel
theorem dX1_join_162 : decode cX1_join 162 = .ok (.goto 6, 3) := by decide +kernel
theorem dX1_join_165 : decode cX1_join 165 = .ok (.iload_n 1, 1) := by decide +kernel
theorem dX1_join_166 : decode cX1_join 166 = .ok (.iload_n 2, 1) := by decide +kernel
theorem dX1_join_167 : decode cX1_join 167 = .ok (.idiv, 1) := by decide +kernel
theorem dX1_join_168 : decode cX1_join 168 = .ok (.ireturn, 1) := by decide +kernel
theorem dX1_join_169 : decode cX1_join 169 = .ok (.iload_n 2, 1) := by decide +kernel
theorem dX1_join_170 : decode cX1_join 170 = .ok (.ifCond .ne 7, 3) := by decide +kernel
theorem dX1_join_173 : decode cX1_join 173 = .ok (.iconst 0, 1) := by decide +kernel
theorem dX1_join_174 : decode cX1_join 174 = .ok (.goto 6, 3) := by decide +kernel
theorem dX1_join_177 : decode cX1_join 177 = .ok (.iload_n 1, 1) := by decide +kernel
theorem dX1_join_178 : decode cX1_join 178 = .ok (.iload_n 2, 1) := by decide +kernel
theorem dX1_join_179 : decode cX1_join 179 = .ok (.irem, 1) := by decide +kernel
theorem dX1_join_180 : decode cX1_join 180 = .ok (.ireturn, 1) := by decide +kernel
theorem dX2_init_0 : decode cX2_init 0 = .ok (.aload_n 0, 1) := by decide +kernel
theorem dX2_init_1 : decode cX2_init 1 = .ok (.invokespecial 3, 3) := by decide +kernel
theorem dX2_init_4 : decode cX2_init 4 = .ok (.aload_n 0, 1) := by decide +kernel
theorem dX2_init_5 : decode cX2_init 5 = .ok (.iconst 2, 1) := by decide +kernel
theorem dX2_init_6 : decode cX2_init 6 = .ok (.newarray .int, 2) := by decide +kernel
theorem dX2_init_8 : decode cX2_init 8 = .ok (.putfield 9, 3) := by decide +kernel
theorem dX2_init_11 : decode cX2_init 11 = .ok (.aload_n 0, 1) := by decide +kernel
theorem dX2_init_12 : decode cX2_init 12 = .ok (.iconst 2, 1) := by decide +kernel
theorem dX2_init_13 : decode cX2_init 13 = .ok (.newarray .int, 2) := by decide +kernel
theorem dX2_init_15 : decode cX2_init 15 = .ok (.putfield 15, 3) := by decide +kernel
theorem dX2_init_18 : decode cX2_init 18 = .ok (.return_, 1) := by decide +kernel
theorem dX2_copyFrom_0 : decode cX2_copyFrom 0 = .ok (.aload_n 0, 1) := by decide +kernel
theorem dX2_copyFrom_1 : decode cX2_copyFrom 1 = .ok (.aload_n 1, 1) := by decide +kernel
theorem dX2_copyFrom_2 : decode cX2_copyFrom 2 = .ok (.getfield 18, 3) := by decide +kernel
theorem dX2_copyFrom_5 : decode cX2_copyFrom 5 = .ok (.putfield 18, 3) := by decide +kernel
theorem dX2_copyFrom_8 : decode cX2_copyFrom 8 = .ok (.aload_n 0, 1) := by decide +kernel
theorem dX2_copyFrom_9 : decode cX2_copyFrom 9 = .ok (.aload_n 1, 1) := by decide +kernel
theorem dX2_copyFrom_10 : decode cX2_copyFrom 10 = .ok (.getfield 22, 3) := by decide +kernel
theorem dX2_copyFrom_13 : decode cX2_copyFrom 13 = .ok (.putfield 22, 3) := by decide +kernel
theorem dX2_copyFrom_16 : decode cX2_copyFrom 16 = .ok (.aload_n 1, 1) := by decide +kernel
theorem dX2_copyFrom_17 : decode cX2_copyFrom 17 = .ok (.getfield 9, 3) := by decide +kernel
theorem dX2_copyFrom_20 : decode cX2_copyFrom 20 = .ok (.iconst 0, 1) := by decide +kernel
theorem dX2_copyFrom_21 : decode cX2_copyFrom 21 = .ok (.aload_n 0, 1) := by decide +kernel
theorem dX2_copyFrom_22 : decode cX2_copyFrom 22 = .ok (.getfield 9, 3) := by decide +kernel
theorem dX2_copyFrom_25 : decode cX2_copyFrom 25 = .ok (.iconst 0, 1) := by decide +kernel
theorem dX2_copyFrom_26 : decode cX2_copyFrom 26 = .ok (.iconst 2, 1) := by decide +kernel
theorem dX2_copyFrom_27 : decode cX2_copyFrom 27 = .ok (.invokestatic 25, 3) := by decide +kernel
theorem dX2_copyFrom_30 : decode cX2_copyFrom 30 = .ok (.return_, 1) := by decide +kernel
set_option maxRecDepth 20000 in
theorem ggX2_signsOf_J6_bitCount_0f7a4 : GoodIn wsX2_signsOf wsJ6_bitCount_0f7a4 := goodIn_r _ [4, 5, 6, 7] (by decide +kernel) (by decide +kernel)
set_option maxRecDepth 20000 in
theorem gX2_signsOf_J6_bitCount_0f7a4 : GoodIn wsX2_signsOf (va_wsS RX2 31 yJ6_bitCount_0f7a4 wsJ6_bitCount_0f7a4) := goodIn_app (goodIn_of _ (by decide +kernel)) ggX2_signsOf_J6_bitCount_0f7a4
theorem dX2_signsOf_0 : decode cX2_signsOf 0 = .ok (.iload_n 2, 1) := by decide +kernel
theorem dX2_signsOf_1 : decode cX2_signsOf 1 = .ok (.iload_n 0, 1) := by decide +kernel
theorem dX2_signsOf_2 : decode cX2_signsOf 2 = .ok (.ifCond .ne 7, 3) := by decide +kernel
theorem dX2_signsOf_5 : decode cX2_signsOf 5 = .ok (.iload_n 1, 1) := by decide +kernel
theorem dX2_signsOf_6 : decode cX2_signsOf 6 = .ok (.goto 6, 3) := by decide +kernel
theorem dX2_signsOf_9 : decode cX2_signsOf 9 = .ok (.iload_n 1, 1) := by decide +kernel
theorem dX2_signsOf_10 : decode cX2_signsOf 10 = .ok (.iconst (-1), 1) := by decide +kernel
theorem dX2_signsOf_11 : decode cX2_signsOf 11 = .ok (.ixor, 1) := by decide +kernel
theorem dX2_signsOf_12 : decode cX2_signsOf 12 = .ok (.iand, 1) := by decide +kernel
theorem dX2_signsOf_13 : decode cX2_signsOf 13 = .ok (.invokestatic 31, 3) := by decide +kernel
theorem dX2_signsOf_16 : decode cX2_signsOf 16 = .ok (.ireturn, 1) := by decide +kernel
theorem dX3_init_0 : decode cX3_init 0 = .ok (.aload_n 0, 1) := by decide +kernel
theorem dX3_init_1 : decode cX3_init 1 = .ok (.invokespecial 3, 3) := by decide +kernel
theorem dX3_init_4 : decode cX3_init 4 = .ok (.aload_n 0, 1) := by decide +kernel
theorem dX3_init_5 : decode cX3_init 5 = .ok (.bipush 24, 2) := by decide +kernel
theorem dX3_init_7 : decode cX3_init 7 = .ok (.newarray .int, 2) := by decide +kernel
theorem dX3_init_9 : decode cX3_init 9 = .ok (.putfield 9, 3) := by decide +kernel
theorem dX3_init_12 : decode cX3_init 12 = .ok (.return_, 1) := by decide +kernel
theorem dX3_isMissing_0 : decode cX3_isMissing 0 = .ok (.aload_n 0, 1) := by decide +kernel
theorem dX3_isMissing_1 : decode cX3_isMissing 1 = .ok (.getfield 15, 3) := by decide +kernel
theorem dX3_isMissing_4 : decode cX3_isMissing 4 = .ok (.ifCond .ne 7, 3) := by decide +kernel
theorem dX3_isMissing_7 : decode cX3_isMissing 7 = .ok (.iconst 1, 1) := by decide +kernel
theorem dX3_isMissing_8 : decode cX3_isMissing 8 = .ok (.goto 4, 3) := by decide +kernel
theorem dX3_isMissing_11 : decode cX3_isMissing 11 = .ok (.iconst 0, 1) := by decide +kernel
theorem dX3_isMissing_12 : decode cX3_isMissing 12 = .ok (.ireturn, 1) := by decide +kernel
set_option maxRecDepth 20000 in
theorem ggX3_begin_J7_fill_53178 : GoodIn wsX3_begin wsJ7_fill_53178 := goodIn_r _ [7] (by decide +kernel) (by decide +kernel)
set_option maxRecDepth 20000 in
theorem gX3_begin_J7_fill_53178 : GoodIn wsX3_begin (va_wsS RX3 22 yJ7_fill_53178 wsJ7_fill_53178) := goodIn_app (goodIn_of _ (by decide +kernel)) ggX3_begin_J7_fill_53178
theorem dX3_begin_0 : decode cX3_begin 0 = .ok (.aload_n 0, 1) := by decide +kernel
theorem dX3_begin_1 : decode cX3_begin 1 = .ok (.iload_n 1, 1) := by decide +kernel
theorem dX3_begin_2 : decode cX3_begin 2 = .ok (.putfield 15, 3) := by decide +kernel
theorem dX3_begin_5 : decode cX3_begin 5 = .ok (.aload_n 0, 1) := by decide +kernel
theorem dX3_begin_6 : decode cX3_begin 6 = .ok (.iload_n 2, 1) := by decide +kernel
theorem dX3_begin_7 : decode cX3_begin 7 = .ok (.putfield 19, 3) := by decide +kernel
theorem dX3_begin_10 : decode cX3_begin 10 = .ok (.aload_n 0, 1) := by decide +kernel
theorem dX3_begin_11 : decode cX3_begin 11 = .ok (.getfield 9, 3) := by decide +kernel
theorem dX3_begin_14 : decode cX3_begin 14 = .ok (.iconst 0, 1) := by decide +kernel
theorem dX3_begin_15 : decode cX3_begin 15 = .ok (.invokestatic 22, 3) := by decide +kernel
theorem dX3_begin_18 : decode cX3_begin 18 = .ok (.return_, 1) := by decide +kernel
theorem dX3_narrowed_0 : decode cX3_narrowed 0 = .ok (.aload_n 0, 1) := by decide +kernel
theorem dX3_narrowed_1 : decode cX3_narrowed 1 = .ok (.getfield 15, 3) := by decide +kernel
theorem dX3_narrowed_4 : decode cX3_narrowed 4 = .ok (.lookupswitch 34 #[(8, 28), (16, 31)], 28) := by decide +kernel
theorem dX3_narrowed_32 : decode cX3_narrowed 32 = .ok (.iload_n 1, 1) := by decide +kernel
theorem dX3_narrowed_33 : decode cX3_narrowed 33 = .ok (.i2b, 1) := by decide +kernel
theorem dX3_narrowed_34 : decode cX3_narrowed 34 = .ok (.ireturn, 1) := by decide +kernel
theorem dX3_narrowed_35 : decode cX3_narrowed 35 = .ok (.iload_n 1, 1) := by decide +kernel
theorem dX3_narrowed_36 : decode cX3_narrowed 36 = .ok (.i2s, 1) := by decide +kernel
theorem dX3_narrowed_37 : decode cX3_narrowed 37 = .ok (.ireturn, 1) := by decide +kernel
theorem dX3_narrowed_38 : decode cX3_narrowed 38 = .ok (.iload_n 1, 1) := by decide +kernel
theorem dX3_narrowed_39 : decode cX3_narrowed 39 = .ok (.ireturn, 1) := by decide +kernel
theorem dX3_holds_0 : decode cX3_holds 0 = .ok (.iload_n 1, 1) := by decide +kernel
theorem dX3_holds_1 : decode cX3_holds 1 = .ok (.ifCond .lt 21, 3) := by decide +kernel
theorem dX3_holds_4 : decode cX3_holds 4 = .ok (.iload_n 2, 1) := by decide +kernel
theorem dX3_holds_5 : decode cX3_holds 5 = .ok (.ifCond .lt 17, 3) := by decide +kernel
theorem dX3_holds_8 : decode cX3_holds 8 = .ok (.iload_n 1, 1) := by decide +kernel
theorem dX3_holds_9 : decode cX3_holds 9 = .ok (.aload_n 0, 1) := by decide +kernel
theorem dX3_holds_10 : decode cX3_holds 10 = .ok (.getfield 19, 3) := by decide +kernel
theorem dX3_holds_13 : decode cX3_holds 13 = .ok (.iload_n 2, 1) := by decide +kernel
theorem dX3_holds_14 : decode cX3_holds 14 = .ok (.isub, 1) := by decide +kernel
theorem dX3_holds_15 : decode cX3_holds 15 = .ok (.if_icmp .gt 7, 3) := by decide +kernel
theorem dX3_holds_18 : decode cX3_holds 18 = .ok (.iconst 1, 1) := by decide +kernel
theorem dX3_holds_19 : decode cX3_holds 19 = .ok (.goto 4, 3) := by decide +kernel
theorem dX3_holds_22 : decode cX3_holds 22 = .ok (.iconst 0, 1) := by decide +kernel
theorem dX3_holds_23 : decode cX3_holds 23 = .ok (.ireturn, 1) := by decide +kernel
theorem dX4_init_0 : decode cX4_init 0 = .ok (.aload_n 0, 1) := by decide +kernel
theorem dX4_init_1 : decode cX4_init 1 = .ok (.invokespecial 3, 3) := by decide +kernel
theorem dX4_init_4 : decode cX4_init 4 = .ok (.aload_n 0, 1) := by decide +kernel
theorem dX4_init_5 : decode cX4_init 5 = .ok (.bipush 60, 2) := by decide +kernel
theorem dX4_init_7 : decode cX4_init 7 = .ok (.newarray .byte, 2) := by decide +kernel
theorem dX4_init_9 : decode cX4_init 9 = .ok (.putfield 9, 3) := by decide +kernel
theorem dX4_init_12 : decode cX4_init 12 = .ok (.aload_n 0, 1) := by decide +kernel
theorem dX4_init_13 : decode cX4_init 13 = .ok (.ldc 15, 2) := by decide +kernel
theorem dX4_init_15 : decode cX4_init 15 = .ok (.putfield 17, 3) := by decide +kernel
theorem dX4_init_18 : decode cX4_init 18 = .ok (.aload_n 0, 1) := by decide +kernel
theorem dX4_init_19 : decode cX4_init 19 = .ok (.bipush 60, 2) := by decide +kernel
theorem dX4_init_21 : decode cX4_init 21 = .ok (.newarray .int, 2) := by decide +kernel
theorem dX4_init_23 : decode cX4_init 23 = .ok (.putfield 21, 3) := by decide +kernel
theorem dX4_init_26 : decode cX4_init 26 = .ok (.return_, 1) := by decide +kernel
set_option maxRecDepth 20000 in
theorem ggX4_faultIn_X4_readLevel : GoodIn wsX4_faultIn wsX4_readLevel := goodIn_r _ [21, 15, 22, 23, 24, 20, 17, 18, 19, 25, 26, 27, 28, 9, 1, 29, 30, 31, 32, 33, 34, 35, 16, 36, 37, 38, 39, 14, 40, 41, 42, 43, 44, 45, 46, 47, 48, 49, 50, 51, 52, 53, 54, 55, 56, 57, 58, 59, 60, 61, 62, 63, 64, 65, 66, 67, 68, 69, 70, 71, 72, 73, 74, 75, 7, 4, 8, 76, 3, 5, 77, 78, 79, 80, 81, 82, 83, 84, 85, 86, 87, 88, 89, 90, 91, 92, 93, 94, 95, 96, 97, 98, 99, 100, 101, 102, 103, 104, 105, 106, 107, 108, 109, 110, 111, 112, 113, 114, 115, 116, 117, 118, 119, 120, 121, 122, 123, 124, 125, 126, 127, 128, 129, 130, 131, 132, 133, 134, 135, 136, 137, 138, 139, 140, 141, 142] (by decide +kernel) (by decide +kernel)
set_option maxRecDepth 20000 in
theorem gX4_faultIn_X4_readLevel : GoodIn wsX4_faultIn (wsV RX4 50 RX4 yX4_readLevel wsX4_readLevel) := goodIn_app (goodIn_of _ (by decide +kernel)) ggX4_faultIn_X4_readLevel
theorem dX4_faultIn_0 : decode cX4_faultIn 0 = .ok (.aload_n 0, 1) := by decide +kernel
theorem dX4_faultIn_1 : decode cX4_faultIn 1 = .ok (.iconst 0, 1) := by decide +kernel
theorem dX4_faultIn_2 : decode cX4_faultIn 2 = .ok (.iload_n 2, 1) := by decide +kernel
theorem dX4_faultIn_3 : decode cX4_faultIn 3 = .ok (.aload_n 1, 1) := by decide +kernel
theorem dX4_faultIn_4 : decode cX4_faultIn 4 = .ok (.arraylength, 1) := by decide +kernel
theorem dX4_faultIn_5 : decode cX4_faultIn 5 = .ok (.aload_n 0, 1) := by decide +kernel
theorem dX4_faultIn_6 : decode cX4_faultIn 6 = .ok (.getfield 9, 3) := by decide +kernel
theorem dX4_faultIn_9 : decode cX4_faultIn 9 = .ok (.arraylength, 1) := by decide +kernel
theorem dX4_faultIn_10 : decode cX4_faultIn 10 = .ok (.invokestatic 25, 3) := by decide +kernel
theorem dX4_faultIn_13 : decode cX4_faultIn 13 = .ok (.invokestatic 25, 3) := by decide +kernel
theorem dX4_faultIn_16 : decode cX4_faultIn 16 = .ok (.invokestatic 31, 3) := by decide +kernel
theorem dX4_faultIn_19 : decode cX4_faultIn 19 = .ok (.putfield 34, 3) := by decide +kernel
theorem dX4_faultIn_22 : decode cX4_faultIn 22 = .ok (.aload_n 1, 1) := by decide +kernel
theorem dX4_faultIn_23 : decode cX4_faultIn 23 = .ok (.iconst 0, 1) := by decide +kernel
theorem dX4_faultIn_24 : decode cX4_faultIn 24 = .ok (.aload_n 0, 1) := by decide +kernel
theorem dX4_faultIn_25 : decode cX4_faultIn 25 = .ok (.getfield 9, 3) := by decide +kernel
theorem dX4_faultIn_28 : decode cX4_faultIn 28 = .ok (.iconst 0, 1) := by decide +kernel
theorem dX4_faultIn_29 : decode cX4_faultIn 29 = .ok (.aload_n 0, 1) := by decide +kernel
theorem dX4_faultIn_30 : decode cX4_faultIn 30 = .ok (.getfield 34, 3) := by decide +kernel
theorem dX4_faultIn_33 : decode cX4_faultIn 33 = .ok (.invokestatic 38, 3) := by decide +kernel
theorem dX4_faultIn_36 : decode cX4_faultIn 36 = .ok (.aload_n 0, 1) := by decide +kernel
theorem dX4_faultIn_37 : decode cX4_faultIn 37 = .ok (.aload_n 3, 1) := by decide +kernel
theorem dX4_faultIn_38 : decode cX4_faultIn 38 = .ok (.putfield 17, 3) := by decide +kernel
theorem dX4_faultIn_41 : decode cX4_faultIn 41 = .ok (.aload_n 0, 1) := by decide +kernel
theorem dX4_faultIn_42 : decode cX4_faultIn 42 = .ok (.iconst 0, 1) := by decide +kernel
theorem dX4_faultIn_43 : decode cX4_faultIn 43 = .ok (.putfield 44, 3) := by decide +kernel
theorem dX4_faultIn_46 : decode cX4_faultIn 46 = .ok (.aload_n 0, 1) := by decide +kernel
theorem dX4_faultIn_47 : decode cX4_faultIn 47 = .ok (.iconst 0, 1) := by decide +kernel
theorem dX4_faultIn_48 : decode cX4_faultIn 48 = .ok (.putfield 47, 3) := by decide +kernel
theorem dX4_faultIn_51 : decode cX4_faultIn 51 = .ok (.aload_n 0, 1) := by decide +kernel
theorem dX4_faultIn_52 : decode cX4_faultIn 52 = .ok (.iconst 0, 1) := by decide +kernel
theorem dX4_faultIn_53 : decode cX4_faultIn 53 = .ok (.iconst 0, 1) := by decide +kernel
theorem dX4_faultIn_54 : decode cX4_faultIn 54 = .ok (.invokevirtual 50, 3) := by decide +kernel
theorem dX4_faultIn_57 : decode cX4_faultIn 57 = .ok (.ifCond .eq 18, 3) := by decide +kernel
theorem dX4_faultIn_60 : decode cX4_faultIn 60 = .ok (.aload_n 0, 1) := by decide +kernel
theorem dX4_faultIn_61 : decode cX4_faultIn 61 = .ok (.getfield 44, 3) := by decide +kernel
theorem dX4_faultIn_64 : decode cX4_faultIn 64 = .ok (.aload_n 0, 1) := by decide +kernel
theorem dX4_faultIn_65 : decode cX4_faultIn 65 = .ok (.getfield 34, 3) := by decide +kernel
theorem dX4_faultIn_68 : decode cX4_faultIn 68 = .ok (.if_icmp .ne 7, 3) := by decide +kernel
theorem dX4_faultIn_71 : decode cX4_faultIn 71 = .ok (.iconst 1, 1) := by decide +kernel
theorem dX4_faultIn_72 : decode cX4_faultIn 72 = .ok (.goto 4, 3) := by decide +kernel
theorem dX4_faultIn_75 : decode cX4_faultIn 75 = .ok (.iconst 0, 1) := by decide +kernel
theorem dX4_faultIn_76 : decode cX4_faultIn 76 = .ok (.istore 4, 2) := by decide +kernel
theorem dX4_faultIn_78 : decode cX4_faultIn 78 = .ok (.iload 4, 2) := by decide +kernel
theorem dX4_faultIn_80 : decode cX4_faultIn 80 = .ok (.ifCond .eq 7, 3) := by decide +kernel
theorem dX4_faultIn_83 : decode cX4_faultIn 83 = .ok (.iconst (-1), 1) := by decide +kernel
theorem dX4_faultIn_84 : decode cX4_faultIn 84 = .ok (.goto 7, 3) := by decide +kernel
theorem dX4_faultIn_87 : decode cX4_faultIn 87 = .ok (.aload_n 0, 1) := by decide +kernel
theorem dX4_faultIn_88 : decode cX4_faultIn 88 = .ok (.getfield 44, 3) := by decide +kernel
theorem dX4_faultIn_91 : decode cX4_faultIn 91 = .ok (.ireturn, 1) := by decide +kernel
set_option maxRecDepth 20000 in
theorem ggX4_readLevel_X4_readSingle : GoodIn wsX4_readLevel wsX4_readSingle := goodIn_r _ [26, 27, 1, 9, 10, 11, 5, 12, 13, 14, 28, 29, 30, 31, 32, 33, 34, 18, 19, 20, 21, 22, 23, 35, 36, 37, 38, 39, 40, 41, 42, 43, 44, 45, 46, 47, 48, 49, 50, 51, 52, 53, 54, 55, 56, 57, 58, 59, 60, 61, 62, 63, 64, 65, 66, 67, 68, 69, 70, 71, 72, 73, 74, 75, 76, 77, 78, 79, 80, 81, 82, 83, 84, 85, 86, 87, 88, 89, 90, 91, 92, 93, 94, 95, 96, 97, 98, 99, 100, 101, 102, 103, 104, 105, 106, 107, 108, 109, 110, 111, 112, 113, 114, 115, 116, 117, 118, 119, 120, 121, 122, 123, 124, 125, 126, 127, 128, 129, 24, 6, 7, 8, 25, 2, 3, 4, 0, 15, 16, 17, 130, 131, 132, 133, 134, 135] (by decide +kernel) (by decide +kernel)
set_option maxRecDepth 20000 in
theorem gX4_readLevel_X4_readSingle : GoodIn wsX4_readLevel (wsV RX4 54 RX4 yX4_readSingle wsX4_readSingle) := goodIn_app (goodIn_of _ (by decide +kernel)) ggX4_readLevel_X4_readSingle
set_option maxRecDepth 20000 in
theorem ggX4_readLevel_X4_readLevel : GoodIn wsX4_readLevel wsX4_readLevel := goodIn_r _ [0, 1, 2, 3, 4, 5, 6, 7, 8, 9, 10, 11, 12, 13, 14, 15, 16, 17, 18, 19, 20, 21, 22, 23, 24, 25, 26, 27, 28, 29, 30, 31, 32, 33, 34, 35, 36, 37, 38, 39, 40, 41, 42, 43, 44, 45, 46, 47, 48, 49, 50, 51, 52, 53, 54, 55, 56, 57, 58, 59, 60, 61, 62, 63, 64, 65, 66, 67, 68, 69, 70, 71, 72, 73, 74, 75, 76, 77, 78, 79, 80, 81, 82, 83, 84, 85, 86, 87, 88, 89, 90, 91, 92, 93, 94, 95, 96, 97, 98, 99, 100, 101, 102, 103, 104, 105, 106, 107, 108, 109, 110, 111, 112, 113, 114, 115, 116, 117, 118, 119, 120, 121, 122, 123, 124, 125, 126, 127, 128, 129, 130, 131, 132, 133, 134, 135] (by decide +kernel) (by decide +kernel)
set_option maxRecDepth 20000 in
theorem gX4_readLevel_X4_readLevel : GoodIn wsX4_readLevel (wsV RX4 50 RX4 yX4_readLevel wsX4_readLevel) := goodIn_app (goodIn_of _ (by decide +kernel)) ggX4_readLevel_X4_readLevel
set_option maxRecDepth 20000 in
theorem ggX4_readLevel_X4_next : GoodIn wsX4_readLevel wsX4_next := goodIn_r _ [12, 1, 13, 14, 130, 131, 132, 133, 134, 135] (by decide +kernel) (by decide +kernel)
set_option maxRecDepth 20000 in
theorem gX4_readLevel_X4_next : GoodIn wsX4_readLevel (wsV RX4 58 RX4 yX4_next wsX4_next) := goodIn_app (goodIn_of _ (by decide +kernel)) ggX4_readLevel_X4_next
set_option maxRecDepth 20000 in
theorem ggX4_readLevel_X4_levelOf : GoodIn wsX4_readLevel wsX4_levelOf := goodIn_r _ [17] (by decide +kernel) (by decide +kernel)
set_option maxRecDepth 20000 in
theorem gX4_readLevel_X4_levelOf : GoodIn wsX4_readLevel (va_wsS RX4 62 yX4_levelOf wsX4_levelOf) := goodIn_app (goodIn_of _ (by decide +kernel)) ggX4_readLevel_X4_levelOf
set_option maxRecDepth 20000 in
theorem ggX4_readLevel_X4_add : GoodIn wsX4_readLevel wsX4_add := goodIn_r _ [21, 22, 23, 130, 131, 132, 133, 134, 135] (by decide +kernel) (by decide +kernel)
set_option maxRecDepth 20000 in
theorem gX4_readLevel_X4_add : GoodIn wsX4_readLevel (wsV RX4 66 RX4 yX4_add wsX4_add) := goodIn_app (goodIn_of _ (by decide +kernel)) ggX4_readLevel_X4_add
theorem dX4_readLevel_0 : decode cX4_readLevel 0 = .ok (.iload_n 1, 1) := by decide +kernel
theorem dX4_readLevel_1 : decode cX4_readLevel 1 = .ok (.iconst 5, 1) := by decide +kernel
theorem dX4_readLevel_2 : decode cX4_readLevel 2 = .ok (.if_icmp .lt 9, 3) := by decide +kernel
theorem dX4_readLevel_5 : decode cX4_readLevel 5 = .ok (.aload_n 0, 1) := by decide +kernel
theorem dX4_readLevel_6 : decode cX4_readLevel 6 = .ok (.iload_n 2, 1) := by decide +kernel
theorem dX4_readLevel_7 : decode cX4_readLevel 7 = .ok (.invokevirtual 54, 3) := by decide +kernel
theorem dX4_readLevel_10 : decode cX4_readLevel 10 = .ok (.ireturn, 1) := by decide +kernel
theorem dX4_readLevel_11 : decode cX4_readLevel 11 = .ok (.aload_n 0, 1) := by decide +kernel
theorem dX4_readLevel_12 : decode cX4_readLevel 12 = .ok (.iload_n 1, 1) := by decide +kernel
theorem dX4_readLevel_13 : decode cX4_readLevel 13 = .ok (.iconst 1, 1) := by decide +kernel
theorem dX4_readLevel_14 : decode cX4_readLevel 14 = .ok (.iadd, 1) := by decide +kernel
theorem dX4_readLevel_15 : decode cX4_readLevel 15 = .ok (.iload_n 2, 1) := by decide +kernel
theorem dX4_readLevel_16 : decode cX4_readLevel 16 = .ok (.invokevirtual 50, 3) := by decide +kernel
theorem dX4_readLevel_19 : decode cX4_readLevel 19 = .ok (.ifCond .ne 5, 3) := by decide +kernel
theorem dX4_readLevel_22 : decode cX4_readLevel 22 = .ok (.iconst 0, 1) := by decide +kernel
theorem dX4_readLevel_23 : decode cX4_readLevel 23 = .ok (.ireturn, 1) := by decide +kernel
theorem dX4_readLevel_24 : decode cX4_readLevel 24 = .ok (.iload_n 1, 1) := by decide +kernel
theorem dX4_readLevel_25 : decode cX4_readLevel 25 = .ok (.iconst 2, 1) := by decide +kernel
theorem dX4_readLevel_26 : decode cX4_readLevel 26 = .ok (.if_icmp .ne 7, 3) := by decide +kernel
theorem dX4_readLevel_29 : decode cX4_readLevel 29 = .ok (.iconst 1, 1) := by decide +kernel
theorem dX4_readLevel_30 : decode cX4_readLevel 30 = .ok (.goto 5, 3) := by decide +kernel
theorem dX4_readLevel_33 : decode cX4_readLevel 33 = .ok (.bipush 60, 2) := by decide +kernel
theorem dX4_readLevel_35 : decode cX4_readLevel 35 = .ok (.istore_n 3, 1) := by decide +kernel
theorem dX4_readLevel_36 : decode cX4_readLevel 36 = .ok (.iconst 0, 1) := by decide +kernel
theorem dX4_readLevel_37 : decode cX4_readLevel 37 = .ok (.istore 4, 2) := by decide +kernel
theorem dX4_readLevel_39 : decode cX4_readLevel 39 = .ok (.iload 4, 2) := by decide +kernel
theorem dX4_readLevel_41 : decode cX4_readLevel 41 = .ok (.iload_n 3, 1) := by decide +kernel
theorem dX4_readLevel_42 : decode cX4_readLevel 42 = .ok (.if_icmp .ge 56, 3) := by decide +kernel
theorem dX4_readLevel_45 : decode cX4_readLevel 45 = .ok (.aload_n 0, 1) := by decide +kernel
theorem dX4_readLevel_46 : decode cX4_readLevel 46 = .ok (.invokevirtual 58, 3) := by decide +kernel
theorem dX4_readLevel_49 : decode cX4_readLevel 49 = .ok (.invokestatic 62, 3) := by decide +kernel
theorem dX4_readLevel_52 : decode cX4_readLevel 52 = .ok (.iload_n 1, 1) := by decide +kernel
theorem dX4_readLevel_53 : decode cX4_readLevel 53 = .ok (.if_icmp .ne 45, 3) := by decide +kernel
theorem dX4_readLevel_56 : decode cX4_readLevel 56 = .ok (.aload_n 0, 1) := by decide +kernel
theorem dX4_readLevel_57 : decode cX4_readLevel 57 = .ok (.invokevirtual 58, 3) := by decide +kernel
theorem dX4_readLevel_60 : decode cX4_readLevel 60 = .ok (.istore 5, 2) := by decide +kernel
theorem dX4_readLevel_62 : decode cX4_readLevel 62 = .ok (.aload_n 0, 1) := by decide +kernel
theorem dX4_readLevel_63 : decode cX4_readLevel 63 = .ok (.dup, 1) := by decide +kernel
theorem dX4_readLevel_64 : decode cX4_readLevel 64 = .ok (.getfield 44, 3) := by decide +kernel
theorem dX4_readLevel_67 : decode cX4_readLevel 67 = .ok (.iconst 1, 1) := by decide +kernel
theorem dX4_readLevel_68 : decode cX4_readLevel 68 = .ok (.iadd, 1) := by decide +kernel
theorem dX4_readLevel_69 : decode cX4_readLevel 69 = .ok (.putfield 44, 3) := by decide +kernel
theorem dX4_readLevel_72 : decode cX4_readLevel 72 = .ok (.aload_n 0, 1) := by decide +kernel
theorem dX4_readLevel_73 : decode cX4_readLevel 73 = .ok (.iload_n 1, 1) := by decide +kernel
theorem dX4_readLevel_74 : decode cX4_readLevel 74 = .ok (.iconst 1, 1) := by decide +kernel
theorem dX4_readLevel_75 : decode cX4_readLevel 75 = .ok (.iadd, 1) := by decide +kernel
theorem dX4_readLevel_76 : decode cX4_readLevel 76 = .ok (.iload_n 2, 1) := by decide +kernel
theorem dX4_readLevel_77 : decode cX4_readLevel 77 = .ok (.invokevirtual 50, 3) := by decide +kernel
theorem dX4_readLevel_80 : decode cX4_readLevel 80 = .ok (.ifCond .ne 5, 3) := by decide +kernel
theorem dX4_readLevel_83 : decode cX4_readLevel 83 = .ok (.iconst 0, 1) := by decide +kernel
theorem dX4_readLevel_84 : decode cX4_readLevel 84 = .ok (.ireturn, 1) := by decide +kernel
theorem dX4_readLevel_85 : decode cX4_readLevel 85 = .ok (.aload_n 0, 1) := by decide +kernel
theorem dX4_readLevel_86 : decode cX4_readLevel 86 = .ok (.iload 5, 2) := by decide +kernel
theorem dX4_readLevel_88 : decode cX4_readLevel 88 = .ok (.ineg, 1) := by decide +kernel
theorem dX4_readLevel_89 : decode cX4_readLevel 89 = .ok (.invokevirtual 66, 3) := by decide +kernel
theorem dX4_readLevel_92 : decode cX4_readLevel 92 = .ok (.iinc 4 1, 3) := by decide +kernel
theorem dX4_readLevel_95 : decode cX4_readLevel 95 = .ok (.goto (-56), 3) := by decide +kernel
theorem dX4_readLevel_98 : decode cX4_readLevel 98 = .ok (.iconst 1, 1) := by decide +kernel
theorem dX4_readLevel_99 : decode cX4_readLevel 99 = .ok (.ireturn, 1) := by decide +kernel
theorem dX4_levelOf_0 : decode cX4_levelOf 0 = .ok (.iload_n 0, 1) := by decide +kernel
theorem dX4_levelOf_1 : decode cX4_levelOf 1 = .ok (.lookupswitch 101 #[(37, 99), (38, 93), (42, 99), (43, 97), (45, 97), (47, 99), (60, 95), (61, 95), (62, 95), (124, 91)], 91) := by decide +kernel
theorem dX4_levelOf_92 : decode cX4_levelOf 92 = .ok (.iconst 0, 1) := by decide +kernel
theorem dX4_levelOf_93 : decode cX4_levelOf 93 = .ok (.ireturn, 1) := by decide +kernel
theorem dX4_levelOf_94 : decode cX4_levelOf 94 = .ok (.iconst 1, 1) := by decide +kernel
theorem dX4_levelOf_95 : decode cX4_levelOf 95 = .ok (.ireturn, 1) := by decide +kernel
theorem dX4_levelOf_96 : decode cX4_levelOf 96 = .ok (.iconst 2, 1) := by decide +kernel
theorem dX4_levelOf_97 : decode cX4_levelOf 97 = .ok (.ireturn, 1) := by decide +kernel
theorem dX4_levelOf_98 : decode cX4_levelOf 98 = .ok (.iconst 3, 1) := by decide +kernel
theorem dX4_levelOf_99 : decode cX4_levelOf 99 = .ok (.ireturn, 1) := by decide +kernel
theorem dX4_levelOf_100 : decode cX4_levelOf 100 = .ok (.iconst 4, 1) := by decide +kernel
theorem dX4_levelOf_101 : decode cX4_levelOf 101 = .ok (.ireturn, 1) := by decide +kernel
theorem dX4_levelOf_102 : decode cX4_levelOf 102 = .ok (.iconst (-1), 1) := by decide +kernel
theorem dX4_levelOf_103 : decode cX4_levelOf 103 = .ok (.ireturn, 1) := by decide +kernel
set_option maxRecDepth 20000 in
theorem ggX4_readSingle_X4_next : GoodIn wsX4_readSingle wsX4_next := goodIn_r _ [7, 2, 8, 9, 130, 131, 132, 133, 134, 135] (by decide +kernel) (by decide +kernel)
set_option maxRecDepth 20000 in
theorem gX4_readSingle_X4_next : GoodIn wsX4_readSingle (wsV RX4 58 RX4 yX4_next wsX4_next) := goodIn_app (goodIn_of _ (by decide +kernel)) ggX4_readSingle_X4_next
set_option maxRecDepth 20000 in
theorem ggX4_readSingle_X4_isDigit : GoodIn wsX4_readSingle wsX4_isDigit := goodIn_r _ [12] (by decide +kernel) (by decide +kernel)
set_option maxRecDepth 20000 in
theorem gX4_readSingle_X4_isDigit : GoodIn wsX4_readSingle (va_wsS RX4 70 yX4_isDigit wsX4_isDigit) := goodIn_app (goodIn_of _ (by decide +kernel)) ggX4_readSingle_X4_isDigit
set_option maxRecDepth 20000 in
theorem ggX4_readSingle_X4_readNumber : GoodIn wsX4_readSingle wsX4_readNumber := goodIn_r _ [16, 2, 3, 4, 5, 6, 7, 8, 9, 10, 11, 12, 17, 18, 19, 20, 21, 22, 130, 131, 132, 133, 134, 135] (by decide +kernel) (by decide +kernel)
set_option maxRecDepth 20000 in
theorem gX4_readSingle_X4_readNumber : GoodIn wsX4_readSingle (wsV RX4 73 RX4 yX4_readNumber wsX4_readNumber) := goodIn_app (goodIn_of _ (by decide +kernel)) ggX4_readSingle_X4_readNumber
set_option maxRecDepth 20000 in
theorem ggX4_readSingle_J0_indexOf_0f7a4 : GoodIn wsX4_readSingle wsJ0_indexOf_0f7a4 := goodIn_r _ [27, 28, 29, 30, 26, 31, 32, 33, 34, 35, 36, 37, 38, 39, 40, 41, 42, 43, 44, 45, 46, 47, 48, 49, 50, 51, 52, 53, 54, 55, 56, 57, 58, 59, 60, 61, 62, 63, 64, 65, 66, 67, 68, 69, 70, 71, 72, 73, 74, 75, 76, 77, 78, 79, 80, 81, 82, 83, 84, 85, 86, 87, 88, 89, 90, 91, 92, 93, 94, 95, 96, 97, 98, 99, 100, 101, 102, 103, 104, 105, 106, 107, 108, 109, 110, 111] (by decide +kernel) (by decide +kernel)
set_option maxRecDepth 20000 in
theorem gX4_readSingle_J0_indexOf_0f7a4 : GoodIn wsX4_readSingle (wsV RX4 76 RJ0 yJ0_indexOf_0f7a4 wsJ0_indexOf_0f7a4) := goodIn_app (goodIn_of _ (by decide +kernel)) ggX4_readSingle_J0_indexOf_0f7a4
set_option maxRecDepth 20000 in
theorem ggX4_readSingle_X4_add : GoodIn wsX4_readSingle wsX4_add := goodIn_r _ [20, 21, 22, 130, 131, 132, 133, 134, 135] (by decide +kernel) (by decide +kernel)
set_option maxRecDepth 20000 in
theorem gX4_readSingle_X4_add : GoodIn wsX4_readSingle (wsV RX4 66 RX4 yX4_add wsX4_add) := goodIn_app (goodIn_of _ (by decide +kernel)) ggX4_readSingle_X4_add
set_option maxRecDepth 20000 in
theorem ggX4_readSingle_X4_readDenied : GoodIn wsX4_readSingle wsX4_readDenied := goodIn_r _ [122, 123, 124, 125, 6, 17, 18, 19, 20, 21, 22, 118, 2, 119, 120, 121, 3, 4, 5, 7, 8, 9, 126, 127, 128, 129, 0, 1, 10, 11, 12, 13, 14, 15, 16, 23, 24, 25, 26, 27, 28, 29, 30, 31, 32, 33, 34, 35, 36, 37, 38, 39, 40, 41, 42, 43, 44, 45, 46, 47, 48, 49, 50, 51, 52, 53, 54, 55, 56, 57, 58, 59, 60, 61, 62, 63, 64, 65, 66, 67, 68, 69, 70, 71, 72, 73, 74, 75, 76, 77, 78, 79, 80, 81, 82, 83, 84, 85, 86, 87, 88, 89, 90, 91, 92, 93, 94, 95, 96, 97, 98, 99, 100, 101, 102, 103, 104, 105, 106, 107, 108, 109, 110, 111, 112, 113, 114, 115, 116, 117, 130, 131, 132, 133, 134, 135] (by decide +kernel) (by decide +kernel)
set_option maxRecDepth 20000 in
theorem gX4_readSingle_X4_readDenied : GoodIn wsX4_readSingle (wsV RX4 81 RX4 yX4_readDenied wsX4_readDenied) := goodIn_app (goodIn_of _ (by decide +kernel)) ggX4_readSingle_X4_readDenied
set_option maxRecDepth 20000 in
theorem ggX4_readSingle_X4_readClosed : GoodIn wsX4_readSingle wsX4_readClosed := goodIn_r _ [118, 2, 119, 120, 121, 6, 3, 4, 5, 7, 8, 9, 122, 123, 124, 125, 17, 18, 19, 20, 21, 22, 126, 127, 128, 129, 0, 1, 10, 11, 12, 13, 14, 15, 16, 23, 24, 25, 26, 27, 28, 29, 30, 31, 32, 33, 34, 35, 36, 37, 38, 39, 40, 41, 42, 43, 44, 45, 46, 47, 48, 49, 50, 51, 52, 53, 54, 55, 56, 57, 58, 59, 60, 61, 62, 63, 64, 65, 66, 67, 68, 69, 70, 71, 72, 73, 74, 75, 76, 77, 78, 79, 80, 81, 82, 83, 84, 85, 86, 87, 88, 89, 90, 91, 92, 93, 94, 95, 96, 97, 98, 99, 100, 101, 102, 103, 104, 105, 106, 107, 108, 109, 110, 111, 112, 113, 114, 115, 116, 117, 130, 131, 132, 133, 134, 135] (by decide +kernel) (by decide +kernel)
set_option maxRecDepth 20000 in
theorem gX4_readSingle_X4_readClosed : GoodIn wsX4_readSingle (wsV RX4 84 RX4 yX4_readClosed wsX4_readClosed) := goodIn_app (goodIn_of _ (by decide +kernel)) ggX4_readSingle_X4_readClosed
theorem dX4_readSingle_0 : decode cX4_readSingle 0 = .ok (.aload_n 0, 1) := by decide +kernel
theorem dX4_readSingle_1 : decode cX4_readSingle 1 = .ok (.invokevirtual 58, 3) := by decide +kernel
theorem dX4_readSingle_4 : decode cX4_readSingle 4 = .ok (.istore_n 2, 1) := by decide +kernel
theorem dX4_readSingle_5 : decode cX4_readSingle 5 = .ok (.iload_n 2, 1) := by decide +kernel
theorem dX4_readSingle_6 : decode cX4_readSingle 6 = .ok (.invokestatic 70, 3) := by decide +kernel
theorem dX4_readSingle_9 : decode cX4_readSingle 9 = .ok (.ifCond .eq 9, 3) := by decide +kernel
theorem dX4_readSingle_12 : decode cX4_readSingle 12 = .ok (.aload_n 0, 1) := by decide +kernel
theorem dX4_readSingle_13 : decode cX4_readSingle 13 = .ok (.invokevirtual 73, 3) := by decide +kernel
theorem dX4_readSingle_16 : decode cX4_readSingle 16 = .ok (.iconst 1, 1) := by decide +kernel
theorem dX4_readSingle_17 : decode cX4_readSingle 17 = .ok (.ireturn, 1) := by decide +kernel
theorem dX4_readSingle_18 : decode cX4_readSingle 18 = .ok (.iload_n 2, 1) := by decide +kernel
theorem dX4_readSingle_19 : decode cX4_readSingle 19 = .ok (.ifCond .ge 7, 3) := by decide +kernel
theorem dX4_readSingle_22 : decode cX4_readSingle 22 = .ok (.iconst (-1), 1) := by decide +kernel
theorem dX4_readSingle_23 : decode cX4_readSingle 23 = .ok (.goto 12, 3) := by decide +kernel
theorem dX4_readSingle_26 : decode cX4_readSingle 26 = .ok (.aload_n 0, 1) := by decide +kernel
theorem dX4_readSingle_27 : decode cX4_readSingle 27 = .ok (.getfield 17, 3) := by decide +kernel
theorem dX4_readSingle_30 : decode cX4_readSingle 30 = .ok (.iload_n 2, 1) := by decide +kernel
theorem dX4_readSingle_31 : decode cX4_readSingle 31 = .ok (.i2c, 1) := by decide +kernel
theorem dX4_readSingle_32 : decode cX4_readSingle 32 = .ok (.invokevirtual 76, 3) := by decide +kernel
theorem dX4_readSingle_35 : decode cX4_readSingle 35 = .ok (.istore_n 3, 1) := by decide +kernel
theorem dX4_readSingle_36 : decode cX4_readSingle 36 = .ok (.iload_n 3, 1) := by decide +kernel
theorem dX4_readSingle_37 : decode cX4_readSingle 37 = .ok (.ifCond .lt 22, 3) := by decide +kernel
theorem dX4_readSingle_40 : decode cX4_readSingle 40 = .ok (.aload_n 0, 1) := by decide +kernel
theorem dX4_readSingle_41 : decode cX4_readSingle 41 = .ok (.dup, 1) := by decide +kernel
theorem dX4_readSingle_42 : decode cX4_readSingle 42 = .ok (.getfield 44, 3) := by decide +kernel
theorem dX4_readSingle_45 : decode cX4_readSingle 45 = .ok (.iconst 1, 1) := by decide +kernel
theorem dX4_readSingle_46 : decode cX4_readSingle 46 = .ok (.iadd, 1) := by decide +kernel
theorem dX4_readSingle_47 : decode cX4_readSingle 47 = .ok (.putfield 44, 3) := by decide +kernel
theorem dX4_readSingle_50 : decode cX4_readSingle 50 = .ok (.aload_n 0, 1) := by decide +kernel
theorem dX4_readSingle_51 : decode cX4_readSingle 51 = .ok (.iconst (-1), 1) := by decide +kernel
theorem dX4_readSingle_52 : decode cX4_readSingle 52 = .ok (.iload_n 3, 1) := by decide +kernel
theorem dX4_readSingle_53 : decode cX4_readSingle 53 = .ok (.isub, 1) := by decide +kernel
theorem dX4_readSingle_54 : decode cX4_readSingle 54 = .ok (.invokevirtual 66, 3) := by decide +kernel
theorem dX4_readSingle_57 : decode cX4_readSingle 57 = .ok (.iconst 1, 1) := by decide +kernel
theorem dX4_readSingle_58 : decode cX4_readSingle 58 = .ok (.ireturn, 1) := by decide +kernel
theorem dX4_readSingle_59 : decode cX4_readSingle 59 = .ok (.iload_n 1, 1) := by decide +kernel
theorem dX4_readSingle_60 : decode cX4_readSingle 60 = .ok (.iconst 5, 1) := by decide +kernel
theorem dX4_readSingle_61 : decode cX4_readSingle 61 = .ok (.if_icmp .ge 15, 3) := by decide +kernel
theorem dX4_readSingle_64 : decode cX4_readSingle 64 = .ok (.iload_n 2, 1) := by decide +kernel
theorem dX4_readSingle_65 : decode cX4_readSingle 65 = .ok (.bipush 33, 2) := by decide +kernel
theorem dX4_readSingle_67 : decode cX4_readSingle 67 = .ok (.if_icmp .eq 11, 3) := by decide +kernel
theorem dX4_readSingle_70 : decode cX4_readSingle 70 = .ok (.iload_n 2, 1) := by decide +kernel
theorem dX4_readSingle_71 : decode cX4_readSingle 71 = .ok (.bipush 40, 2) := by decide +kernel
theorem dX4_readSingle_73 : decode cX4_readSingle 73 = .ok (.if_icmp .eq 5, 3) := by decide +kernel
theorem dX4_readSingle_76 : decode cX4_readSingle 76 = .ok (.iconst 0, 1) := by decide +kernel
theorem dX4_readSingle_77 : decode cX4_readSingle 77 = .ok (.ireturn, 1) := by decide +kernel
theorem dX4_readSingle_78 : decode cX4_readSingle 78 = .ok (.aload_n 0, 1) := by decide +kernel
theorem dX4_readSingle_79 : decode cX4_readSingle 79 = .ok (.dup, 1) := by decide +kernel
theorem dX4_readSingle_80 : decode cX4_readSingle 80 = .ok (.getfield 44, 3) := by decide +kernel
theorem dX4_readSingle_83 : decode cX4_readSingle 83 = .ok (.iconst 1, 1) := by decide +kernel
theorem dX4_readSingle_84 : decode cX4_readSingle 84 = .ok (.iadd, 1) := by decide +kernel
theorem dX4_readSingle_85 : decode cX4_readSingle 85 = .ok (.putfield 44, 3) := by decide +kernel
theorem dX4_readSingle_88 : decode cX4_readSingle 88 = .ok (.iload_n 2, 1) := by decide +kernel
theorem dX4_readSingle_89 : decode cX4_readSingle 89 = .ok (.bipush 33, 2) := by decide +kernel
theorem dX4_readSingle_91 : decode cX4_readSingle 91 = .ok (.if_icmp .ne 13, 3) := by decide +kernel
theorem dX4_readSingle_94 : decode cX4_readSingle 94 = .ok (.aload_n 0, 1) := by decide +kernel
theorem dX4_readSingle_95 : decode cX4_readSingle 95 = .ok (.iload_n 1, 1) := by decide +kernel
theorem dX4_readSingle_96 : decode cX4_readSingle 96 = .ok (.iconst 1, 1) := by decide +kernel
theorem dX4_readSingle_97 : decode cX4_readSingle 97 = .ok (.iadd, 1) := by decide +kernel
theorem dX4_readSingle_98 : decode cX4_readSingle 98 = .ok (.invokevirtual 81, 3) := by decide +kernel
theorem dX4_readSingle_101 : decode cX4_readSingle 101 = .ok (.goto 10, 3) := by decide +kernel
theorem dX4_readSingle_104 : decode cX4_readSingle 104 = .ok (.aload_n 0, 1) := by decide +kernel
theorem dX4_readSingle_105 : decode cX4_readSingle 105 = .ok (.iload_n 1, 1) := by decide +kernel
theorem dX4_readSingle_106 : decode cX4_readSingle 106 = .ok (.iconst 1, 1) := by decide +kernel
theorem dX4_readSingle_107 : decode cX4_readSingle 107 = .ok (.iadd, 1) := by decide +kernel
theorem dX4_readSingle_108 : decode cX4_readSingle 108 = .ok (.invokevirtual 84, 3) := by decide +kernel
theorem dX4_readSingle_111 : decode cX4_readSingle 111 = .ok (.ireturn, 1) := by decide +kernel
set_option maxRecDepth 20000 in
theorem ggX4_readDenied_X4_readSingle : GoodIn wsX4_readDenied wsX4_readSingle := goodIn_r _ [26, 27, 12, 16, 17, 18, 4, 19, 20, 21, 28, 29, 30, 31, 32, 33, 34, 5, 6, 7, 8, 9, 10, 35, 36, 37, 38, 39, 40, 41, 42, 43, 44, 45, 46, 47, 48, 49, 50, 51, 52, 53, 54, 55, 56, 57, 58, 59, 60, 61, 62, 63, 64, 65, 66, 67, 68, 69, 70, 71, 72, 73, 74, 75, 76, 77, 78, 79, 80, 81, 82, 83, 84, 85, 86, 87, 88, 89, 90, 91, 92, 93, 94, 95, 96, 97, 98, 99, 100, 101, 102, 103, 104, 105, 106, 107, 108, 109, 110, 111, 112, 113, 114, 115, 116, 117, 118, 119, 120, 121, 122, 123, 124, 125, 126, 127, 128, 129, 11, 13, 14, 15, 0, 1, 2, 3, 22, 23, 24, 25, 130, 131, 132, 133, 134, 135] (by decide +kernel) (by decide +kernel)
set_option maxRecDepth 20000 in
theorem gX4_readDenied_X4_readSingle : GoodIn wsX4_readDenied (wsV RX4 54 RX4 yX4_readSingle wsX4_readSingle) := goodIn_app (goodIn_of _ (by decide +kernel)) ggX4_readDenied_X4_readSingle
set_option maxRecDepth 20000 in
theorem ggX4_readDenied_X4_add : GoodIn wsX4_readDenied wsX4_add := goodIn_r _ [8, 9, 10, 130, 131, 132, 133, 134, 135] (by decide +kernel) (by decide +kernel)
set_option maxRecDepth 20000 in
theorem gX4_readDenied_X4_add : GoodIn wsX4_readDenied (wsV RX4 66 RX4 yX4_add wsX4_add) := goodIn_app (goodIn_of _ (by decide +kernel)) ggX4_readDenied_X4_add
theorem dX4_readDenied_0 : decode cX4_readDenied 0 = .ok (.aload_n 0, 1) := by decide +kernel
theorem dX4_readDenied_1 : decode cX4_readDenied 1 = .ok (.iload_n 1, 1) := by decide +kernel
theorem dX4_readDenied_2 : decode cX4_readDenied 2 = .ok (.invokevirtual 54, 3) := by decide +kernel
theorem dX4_readDenied_5 : decode cX4_readDenied 5 = .ok (.ifCond .ne 5, 3) := by decide +kernel
theorem dX4_readDenied_8 : decode cX4_readDenied 8 = .ok (.iconst 0, 1) := by decide +kernel
theorem dX4_readDenied_9 : decode cX4_readDenied 9 = .ok (.ireturn, 1) := by decide +kernel
theorem dX4_readDenied_10 : decode cX4_readDenied 10 = .ok (.aload_n 0, 1) := by decide +kernel
theorem dX4_readDenied_11 : decode cX4_readDenied 11 = .ok (.bipush (-33), 2) := by decide +kernel
theorem dX4_readDenied_13 : decode cX4_readDenied 13 = .ok (.invokevirtual 66, 3) := by decide +kernel
theorem dX4_readDenied_16 : decode cX4_readDenied 16 = .ok (.iconst 1, 1) := by decide +kernel
theorem dX4_readDenied_17 : decode cX4_readDenied 17 = .ok (.ireturn, 1) := by decide +kernel
set_option maxRecDepth 20000 in
theorem ggX4_readClosed_X4_readLevel : GoodIn wsX4_readClosed wsX4_readLevel := goodIn_r _ [22, 1, 13, 14, 15, 5, 2, 3, 4, 6, 7, 8, 9, 10, 11, 23, 24, 25, 16, 17, 18, 19, 20, 21, 0, 12, 26, 27, 28, 29, 30, 31, 32, 33, 34, 35, 36, 37, 38, 39, 40, 41, 42, 43, 44, 45, 46, 47, 48, 49, 50, 51, 52, 53, 54, 55, 56, 57, 58, 59, 60, 61, 62, 63, 64, 65, 66, 67, 68, 69, 70, 71, 72, 73, 74, 75, 76, 77, 78, 79, 80, 81, 82, 83, 84, 85, 86, 87, 88, 89, 90, 91, 92, 93, 94, 95, 96, 97, 98, 99, 100, 101, 102, 103, 104, 105, 106, 107, 108, 109, 110, 111, 112, 113, 114, 115, 116, 117, 118, 119, 120, 121, 122, 123, 124, 125, 126, 127, 128, 129, 130, 131, 132, 133, 134, 135] (by decide +kernel) (by decide +kernel)
set_option maxRecDepth 20000 in
theorem gX4_readClosed_X4_readLevel : GoodIn wsX4_readClosed (wsV RX4 50 RX4 yX4_readLevel wsX4_readLevel) := goodIn_app (goodIn_of _ (by decide +kernel)) ggX4_readClosed_X4_readLevel
set_option maxRecDepth 20000 in
theorem ggX4_readClosed_X4_next : GoodIn wsX4_readClosed wsX4_next := goodIn_r _ [9, 1, 10, 11, 130, 131, 132, 133, 134, 135] (by decide +kernel) (by decide +kernel)
set_option maxRecDepth 20000 in
theorem gX4_readClosed_X4_next : GoodIn wsX4_readClosed (wsV RX4 58 RX4 yX4_next wsX4_next) := goodIn_app (goodIn_of _ (by decide +kernel)) ggX4_readClosed_X4_next
theorem dX4_readClosed_0 : decode cX4_readClosed 0 = .ok (.aload_n 0, 1) := by decide +kernel
theorem dX4_readClosed_1 : decode cX4_readClosed 1 = .ok (.iconst 0, 1) := by decide +kernel
theorem dX4_readClosed_2 : decode cX4_readClosed 2 = .ok (.iload_n 1, 1) := by decide +kernel
theorem dX4_readClosed_3 : decode cX4_readClosed 3 = .ok (.invokevirtual 50, 3) := by decide +kernel
theorem dX4_readClosed_6 : decode cX4_readClosed 6 = .ok (.ifCond .eq 12, 3) := by decide +kernel
theorem dX4_readClosed_9 : decode cX4_readClosed 9 = .ok (.aload_n 0, 1) := by decide +kernel
theorem dX4_readClosed_10 : decode cX4_readClosed 10 = .ok (.invokevirtual 58, 3) := by decide +kernel
theorem dX4_readClosed_13 : decode cX4_readClosed 13 = .ok (.bipush 41, 2) := by decide +kernel
theorem dX4_readClosed_15 : decode cX4_readClosed 15 = .ok (.if_icmp .eq 5, 3) := by decide +kernel
theorem dX4_readClosed_18 : decode cX4_readClosed 18 = .ok (.iconst 0, 1) := by decide +kernel
theorem dX4_readClosed_19 : decode cX4_readClosed 19 = .ok (.ireturn, 1) := by decide +kernel
theorem dX4_readClosed_20 : decode cX4_readClosed 20 = .ok (.aload_n 0, 1) := by decide +kernel
theorem dX4_readClosed_21 : decode cX4_readClosed 21 = .ok (.dup, 1) := by decide +kernel
theorem dX4_readClosed_22 : decode cX4_readClosed 22 = .ok (.getfield 44, 3) := by decide +kernel
theorem dX4_readClosed_25 : decode cX4_readClosed 25 = .ok (.iconst 1, 1) := by decide +kernel
theorem dX4_readClosed_26 : decode cX4_readClosed 26 = .ok (.iadd, 1) := by decide +kernel
theorem dX4_readClosed_27 : decode cX4_readClosed 27 = .ok (.putfield 44, 3) := by decide +kernel
theorem dX4_readClosed_30 : decode cX4_readClosed 30 = .ok (.iconst 1, 1) := by decide +kernel
theorem dX4_readClosed_31 : decode cX4_readClosed 31 = .ok (.ireturn, 1) := by decide +kernel
set_option maxRecDepth 20000 in
theorem ggX4_readNumber_X4_next : GoodIn wsX4_readNumber wsX4_next := goodIn_r _ [6, 1, 7, 8, 18, 19, 20, 21, 22, 23] (by decide +kernel) (by decide +kernel)
set_option maxRecDepth 20000 in
theorem gX4_readNumber_X4_next : GoodIn wsX4_readNumber (wsV RX4 58 RX4 yX4_next wsX4_next) := goodIn_app (goodIn_of _ (by decide +kernel)) ggX4_readNumber_X4_next
set_option maxRecDepth 20000 in
theorem ggX4_readNumber_X4_isDigit : GoodIn wsX4_readNumber wsX4_isDigit := goodIn_r _ [11] (by decide +kernel) (by decide +kernel)
set_option maxRecDepth 20000 in
theorem gX4_readNumber_X4_isDigit : GoodIn wsX4_readNumber (va_wsS RX4 70 yX4_isDigit wsX4_isDigit) := goodIn_app (goodIn_of _ (by decide +kernel)) ggX4_readNumber_X4_isDigit
set_option maxRecDepth 20000 in
theorem ggX4_readNumber_X4_add : GoodIn wsX4_readNumber wsX4_add := goodIn_r _ [15, 16, 17, 18, 19, 20, 21, 22, 23] (by decide +kernel) (by decide +kernel)
set_option maxRecDepth 20000 in
theorem gX4_readNumber_X4_add : GoodIn wsX4_readNumber (wsV RX4 66 RX4 yX4_add wsX4_add) := goodIn_app (goodIn_of _ (by decide +kernel)) ggX4_readNumber_X4_add
theorem dX4_readNumber_0 : decode cX4_readNumber 0 = .ok (.iconst 0, 1) := by decide +kernel
theorem dX4_readNumber_1 : decode cX4_readNumber 1 = .ok (.istore_n 1, 1) := by decide +kernel
theorem dX4_readNumber_2 : decode cX4_readNumber 2 = .ok (.iconst 0, 1) := by decide +kernel
theorem dX4_readNumber_3 : decode cX4_readNumber 3 = .ok (.istore_n 2, 1) := by decide +kernel
theorem dX4_readNumber_4 : decode cX4_readNumber 4 = .ok (.iload_n 2, 1) := by decide +kernel
theorem dX4_readNumber_5 : decode cX4_readNumber 5 = .ok (.iconst 4, 1) := by decide +kernel
theorem dX4_readNumber_6 : decode cX4_readNumber 6 = .ok (.if_icmp .ge 42, 3) := by decide +kernel
theorem dX4_readNumber_9 : decode cX4_readNumber 9 = .ok (.aload_n 0, 1) := by decide +kernel
theorem dX4_readNumber_10 : decode cX4_readNumber 10 = .ok (.invokevirtual 58, 3) := by decide +kernel
theorem dX4_readNumber_13 : decode cX4_readNumber 13 = .ok (.invokestatic 70, 3) := by decide +kernel
theorem dX4_readNumber_16 : decode cX4_readNumber 16 = .ok (.ifCond .eq 32, 3) := by decide +kernel
theorem dX4_readNumber_19 : decode cX4_readNumber 19 = .ok (.iload_n 1, 1) := by decide +kernel
theorem dX4_readNumber_20 : decode cX4_readNumber 20 = .ok (.bipush 10, 2) := by decide +kernel
theorem dX4_readNumber_22 : decode cX4_readNumber 22 = .ok (.imul, 1) := by decide +kernel
theorem dX4_readNumber_23 : decode cX4_readNumber 23 = .ok (.aload_n 0, 1) := by decide +kernel
theorem dX4_readNumber_24 : decode cX4_readNumber 24 = .ok (.invokevirtual 58, 3) := by decide +kernel
theorem dX4_readNumber_27 : decode cX4_readNumber 27 = .ok (.iadd, 1) := by decide +kernel
theorem dX4_readNumber_28 : decode cX4_readNumber 28 = .ok (.bipush 48, 2) := by decide +kernel
theorem dX4_readNumber_30 : decode cX4_readNumber 30 = .ok (.isub, 1) := by decide +kernel
theorem dX4_readNumber_31 : decode cX4_readNumber 31 = .ok (.istore_n 1, 1) := by decide +kernel
theorem dX4_readNumber_32 : decode cX4_readNumber 32 = .ok (.aload_n 0, 1) := by decide +kernel
theorem dX4_readNumber_33 : decode cX4_readNumber 33 = .ok (.dup, 1) := by decide +kernel
theorem dX4_readNumber_34 : decode cX4_readNumber 34 = .ok (.getfield 44, 3) := by decide +kernel
theorem dX4_readNumber_37 : decode cX4_readNumber 37 = .ok (.iconst 1, 1) := by decide +kernel
theorem dX4_readNumber_38 : decode cX4_readNumber 38 = .ok (.iadd, 1) := by decide +kernel
theorem dX4_readNumber_39 : decode cX4_readNumber 39 = .ok (.putfield 44, 3) := by decide +kernel
theorem dX4_readNumber_42 : decode cX4_readNumber 42 = .ok (.iinc 2 1, 3) := by decide +kernel
theorem dX4_readNumber_45 : decode cX4_readNumber 45 = .ok (.goto (-41), 3) := by decide +kernel
theorem dX4_readNumber_48 : decode cX4_readNumber 48 = .ok (.aload_n 0, 1) := by decide +kernel
theorem dX4_readNumber_49 : decode cX4_readNumber 49 = .ok (.iload_n 1, 1) := by decide +kernel
theorem dX4_readNumber_50 : decode cX4_readNumber 50 = .ok (.invokevirtual 66, 3) := by decide +kernel
theorem dX4_readNumber_53 : decode cX4_readNumber 53 = .ok (.return_, 1) := by decide +kernel
theorem dX4_isDigit_0 : decode cX4_isDigit 0 = .ok (.iload_n 0, 1) := by decide +kernel
theorem dX4_isDigit_1 : decode cX4_isDigit 1 = .ok (.bipush 48, 2) := by decide +kernel
theorem dX4_isDigit_3 : decode cX4_isDigit 3 = .ok (.if_icmp .lt 13, 3) := by decide +kernel
theorem dX4_isDigit_6 : decode cX4_isDigit 6 = .ok (.iload_n 0, 1) := by decide +kernel
theorem dX4_isDigit_7 : decode cX4_isDigit 7 = .ok (.bipush 57, 2) := by decide +kernel
theorem dX4_isDigit_9 : decode cX4_isDigit 9 = .ok (.if_icmp .gt 7, 3) := by decide +kernel
theorem dX4_isDigit_12 : decode cX4_isDigit 12 = .ok (.iconst 1, 1) := by decide +kernel
theorem dX4_isDigit_13 : decode cX4_isDigit 13 = .ok (.goto 4, 3) := by decide +kernel
theorem dX4_isDigit_16 : decode cX4_isDigit 16 = .ok (.iconst 0, 1) := by decide +kernel
theorem dX4_isDigit_17 : decode cX4_isDigit 17 = .ok (.ireturn, 1) := by decide +kernel
theorem dX4_next_0 : decode cX4_next 0 = .ok (.aload_n 0, 1) := by decide +kernel
theorem dX4_next_1 : decode cX4_next 1 = .ok (.getfield 44, 3) := by decide +kernel
theorem dX4_next_4 : decode cX4_next 4 = .ok (.ifCond .lt 30, 3) := by decide +kernel
theorem dX4_next_7 : decode cX4_next 7 = .ok (.aload_n 0, 1) := by decide +kernel
theorem dX4_next_8 : decode cX4_next 8 = .ok (.getfield 44, 3) := by decide +kernel
theorem dX4_next_11 : decode cX4_next 11 = .ok (.aload_n 0, 1) := by decide +kernel
theorem dX4_next_12 : decode cX4_next 12 = .ok (.getfield 34, 3) := by decide +kernel
theorem dX4_next_15 : decode cX4_next 15 = .ok (.if_icmp .ge 19, 3) := by decide +kernel
theorem dX4_next_18 : decode cX4_next 18 = .ok (.aload_n 0, 1) := by decide +kernel
theorem dX4_next_19 : decode cX4_next 19 = .ok (.getfield 9, 3) := by decide +kernel
theorem dX4_next_22 : decode cX4_next 22 = .ok (.aload_n 0, 1) := by decide +kernel
theorem dX4_next_23 : decode cX4_next 23 = .ok (.getfield 44, 3) := by decide +kernel
theorem dX4_next_26 : decode cX4_next 26 = .ok (.baload, 1) := by decide +kernel
theorem dX4_next_27 : decode cX4_next 27 = .ok (.sipush 255, 3) := by decide +kernel
theorem dX4_next_30 : decode cX4_next 30 = .ok (.iand, 1) := by decide +kernel
theorem dX4_next_31 : decode cX4_next 31 = .ok (.goto 4, 3) := by decide +kernel
theorem dX4_next_34 : decode cX4_next 34 = .ok (.iconst (-1), 1) := by decide +kernel
theorem dX4_next_35 : decode cX4_next 35 = .ok (.ireturn, 1) := by decide +kernel
theorem dX4_add_0 : decode cX4_add 0 = .ok (.aload_n 0, 1) := by decide +kernel
theorem dX4_add_1 : decode cX4_add 1 = .ok (.getfield 47, 3) := by decide +kernel
theorem dX4_add_4 : decode cX4_add 4 = .ok (.ifCond .lt 35, 3) := by decide +kernel
theorem dX4_add_7 : decode cX4_add 7 = .ok (.aload_n 0, 1) := by decide +kernel
theorem dX4_add_8 : decode cX4_add 8 = .ok (.getfield 47, 3) := by decide +kernel
theorem dX4_add_11 : decode cX4_add 11 = .ok (.aload_n 0, 1) := by decide +kernel
theorem dX4_add_12 : decode cX4_add 12 = .ok (.getfield 21, 3) := by decide +kernel
theorem dX4_add_15 : decode cX4_add 15 = .ok (.arraylength, 1) := by decide +kernel
theorem dX4_add_16 : decode cX4_add 16 = .ok (.if_icmp .ge 23, 3) := by decide +kernel
theorem dX4_add_19 : decode cX4_add 19 = .ok (.aload_n 0, 1) := by decide +kernel
theorem dX4_add_20 : decode cX4_add 20 = .ok (.getfield 21, 3) := by decide +kernel
theorem dX4_add_23 : decode cX4_add 23 = .ok (.aload_n 0, 1) := by decide +kernel
theorem dX4_add_24 : decode cX4_add 24 = .ok (.getfield 47, 3) := by decide +kernel
theorem dX4_add_27 : decode cX4_add 27 = .ok (.iload_n 1, 1) := by decide +kernel
theorem dX4_add_28 : decode cX4_add 28 = .ok (.iastore, 1) := by decide +kernel
theorem dX4_add_29 : decode cX4_add 29 = .ok (.aload_n 0, 1) := by decide +kernel
theorem dX4_add_30 : decode cX4_add 30 = .ok (.dup, 1) := by decide +kernel
theorem dX4_add_31 : decode cX4_add 31 = .ok (.getfield 47, 3) := by decide +kernel
theorem dX4_add_34 : decode cX4_add 34 = .ok (.iconst 1, 1) := by decide +kernel
theorem dX4_add_35 : decode cX4_add 35 = .ok (.iadd, 1) := by decide +kernel
theorem dX4_add_36 : decode cX4_add 36 = .ok (.putfield 47, 3) := by decide +kernel
theorem dX4_add_39 : decode cX4_add 39 = .ok (.return_, 1) := by decide +kernel
set_option maxRecDepth 20000 in
theorem ggX5_init_X2_init : GoodIn wsX5_init wsX2_init := goodIn_r _ [13, 14, 2, 3, 8, 15, 16, 17, 18, 19, 20] (by decide +kernel) (by decide +kernel)
set_option maxRecDepth 20000 in
theorem gX5_init_X2_init_n11 : GoodIn wsX5_init (wsX2_init) := ggX5_init_X2_init
theorem dX5_init_0 : decode cX5_init 0 = .ok (.aload_n 0, 1) := by decide +kernel
theorem dX5_init_1 : decode cX5_init 1 = .ok (.invokespecial 3, 3) := by decide +kernel
theorem dX5_init_4 : decode cX5_init 4 = .ok (.aload_n 0, 1) := by decide +kernel
theorem dX5_init_5 : decode cX5_init 5 = .ok (.new 9, 3) := by decide +kernel
theorem dX5_init_8 : decode cX5_init 8 = .ok (.dup, 1) := by decide +kernel
theorem dX5_init_9 : decode cX5_init 9 = .ok (.invokespecial 11, 3) := by decide +kernel
theorem dX5_init_12 : decode cX5_init 12 = .ok (.putfield 12, 3) := by decide +kernel
theorem dX5_init_15 : decode cX5_init 15 = .ok (.aload_n 0, 1) := by decide +kernel
theorem dX5_init_16 : decode cX5_init 16 = .ok (.sipush 256, 3) := by decide +kernel
theorem dX5_init_19 : decode cX5_init 19 = .ok (.newarray .int, 2) := by decide +kernel
theorem dX5_init_21 : decode cX5_init 21 = .ok (.putfield 18, 3) := by decide +kernel
theorem dX5_init_24 : decode cX5_init 24 = .ok (.aload_n 0, 1) := by decide +kernel
theorem dX5_init_25 : decode cX5_init 25 = .ok (.bipush 9, 2) := by decide +kernel
theorem dX5_init_27 : decode cX5_init 27 = .ok (.newarray .int, 2) := by decide +kernel
theorem dX5_init_29 : decode cX5_init 29 = .ok (.putfield 22, 3) := by decide +kernel
theorem dX5_init_32 : decode cX5_init 32 = .ok (.aload_n 0, 1) := by decide +kernel
theorem dX5_init_33 : decode cX5_init 33 = .ok (.bipush 31, 2) := by decide +kernel
theorem dX5_init_35 : decode cX5_init 35 = .ok (.newarray .int, 2) := by decide +kernel
theorem dX5_init_37 : decode cX5_init 37 = .ok (.putfield 25, 3) := by decide +kernel
theorem dX5_init_40 : decode cX5_init 40 = .ok (.return_, 1) := by decide +kernel
set_option maxRecDepth 20000 in
theorem ggX5_stirYear_X7_eventIn : GoodIn wsX5_stirYear wsX7_eventIn := goodIn_r _ [7, 8, 9, 10, 11, 12, 78, 79, 80, 81, 82, 83, 84, 85, 86, 87, 88, 89, 90] (by decide +kernel) (by decide +kernel)
set_option maxRecDepth 20000 in
theorem gX5_stirYear_X7_eventIn : GoodIn wsX5_stirYear (wsV RX5 32 RX7 yX7_eventIn wsX7_eventIn) := goodIn_app (goodIn_of _ (by decide +kernel)) ggX5_stirYear_X7_eventIn
set_option maxRecDepth 20000 in
theorem ggX5_stirYear_X7_stir : GoodIn wsX5_stirYear wsX7_stir := goodIn_r _ [16, 17, 18, 19, 20, 21, 6, 22, 23, 24, 25, 26, 27, 28, 29, 30, 31, 32, 33, 34, 35, 36, 37, 38, 39, 40, 41, 42, 43, 44, 45, 46, 47, 48, 49, 50, 51, 52, 53, 54, 55, 56, 57, 58, 59, 60, 61, 62, 63, 64, 65, 66, 74, 75, 76, 77, 78, 79, 80, 81, 82, 83, 84, 85, 86, 87, 88, 89, 90, 91, 92, 93, 94, 95, 96, 97] (by decide +kernel) (by decide +kernel)
set_option maxRecDepth 20000 in
theorem gX5_stirYear_X7_stir : GoodIn wsX5_stirYear (wsV RX5 38 RX7 yX7_stir wsX7_stir) := goodIn_app (goodIn_of _ (by decide +kernel)) ggX5_stirYear_X7_stir
theorem dX5_stirYear_0 : decode cX5_stirYear 0 = .ok (.aload_n 1, 1) := by decide +kernel
theorem dX5_stirYear_1 : decode cX5_stirYear 1 = .ok (.aload_n 0, 1) := by decide +kernel
theorem dX5_stirYear_2 : decode cX5_stirYear 2 = .ok (.getfield 12, 3) := by decide +kernel
theorem dX5_stirYear_5 : decode cX5_stirYear 5 = .ok (.aload_n 1, 1) := by decide +kernel
theorem dX5_stirYear_6 : decode cX5_stirYear 6 = .ok (.aload_n 0, 1) := by decide +kernel
theorem dX5_stirYear_7 : decode cX5_stirYear 7 = .ok (.getfield 12, 3) := by decide +kernel
theorem dX5_stirYear_10 : decode cX5_stirYear 10 = .ok (.getfield 28, 3) := by decide +kernel
theorem dX5_stirYear_13 : decode cX5_stirYear 13 = .ok (.invokevirtual 32, 3) := by decide +kernel
theorem dX5_stirYear_16 : decode cX5_stirYear 16 = .ok (.invokevirtual 38, 3) := by decide +kernel
theorem dX5_stirYear_19 : decode cX5_stirYear 19 = .ok (.aload_n 0, 1) := by decide +kernel
theorem dX5_stirYear_20 : decode cX5_stirYear 20 = .ok (.getfield 12, 3) := by decide +kernel
theorem dX5_stirYear_23 : decode cX5_stirYear 23 = .ok (.dup, 1) := by decide +kernel
theorem dX5_stirYear_24 : decode cX5_stirYear 24 = .ok (.getfield 28, 3) := by decide +kernel
theorem dX5_stirYear_27 : decode cX5_stirYear 27 = .ok (.iconst 1, 1) := by decide +kernel
theorem dX5_stirYear_28 : decode cX5_stirYear 28 = .ok (.iadd, 1) := by decide +kernel
theorem dX5_stirYear_29 : decode cX5_stirYear 29 = .ok (.putfield 28, 3) := by decide +kernel
theorem dX5_stirYear_32 : decode cX5_stirYear 32 = .ok (.return_, 1) := by decide +kernel
set_option maxRecDepth 20000 in
theorem ggX5_jawAfter_X2_copyFrom : GoodIn wsX5_jawAfter wsX2_copyFrom := goodIn_r _ [8, 9, 10, 11, 12, 13, 14, 15, 105, 106, 107, 108] (by decide +kernel) (by decide +kernel)
set_option maxRecDepth 20000 in
theorem gX5_jawAfter_X2_copyFrom : GoodIn wsX5_jawAfter (wsV RX5 43 RX2 yX2_copyFrom wsX2_copyFrom) := goodIn_app (goodIn_of _ (by decide +kernel)) ggX5_jawAfter_X2_copyFrom
set_option maxRecDepth 20000 in
theorem ggX5_jawAfter_X5_stirYear : GoodIn wsX5_jawAfter wsX5_stirYear := goodIn_r _ [20, 1, 21, 22, 23, 24, 25, 26, 27, 28, 29, 30, 31, 32, 33, 34, 35, 36, 37, 38, 39, 40, 41, 42, 43, 44, 45, 46, 7, 47, 48, 49, 50, 51, 52, 53, 54, 55, 56, 57, 58, 59, 60, 61, 62, 63, 64, 65, 66, 67, 68, 69, 70, 71, 72, 73, 74, 75, 76, 77, 78, 79, 80, 81, 82, 83, 84, 85, 86, 87, 88, 89, 90, 91, 105, 106, 107, 108, 92, 93, 94, 95, 96, 97, 98, 99, 100, 101, 102, 103, 104, 109, 110, 111, 112, 113, 114, 115] (by decide +kernel) (by decide +kernel)
set_option maxRecDepth 20000 in
theorem gX5_jawAfter_X5_stirYear : GoodIn wsX5_jawAfter (wsV RX5 47 RX5 yX5_stirYear wsX5_stirYear) := goodIn_app (goodIn_of _ (by decide +kernel)) ggX5_jawAfter_X5_stirYear
theorem dX5_jawAfter_0 : decode cX5_jawAfter 0 = .ok (.aload_n 0, 1) := by decide +kernel
theorem dX5_jawAfter_1 : decode cX5_jawAfter 1 = .ok (.getfield 12, 3) := by decide +kernel
theorem dX5_jawAfter_4 : decode cX5_jawAfter 4 = .ok (.aload_n 1, 1) := by decide +kernel
theorem dX5_jawAfter_5 : decode cX5_jawAfter 5 = .ok (.getfield 42, 3) := by decide +kernel
theorem dX5_jawAfter_8 : decode cX5_jawAfter 8 = .ok (.invokevirtual 43, 3) := by decide +kernel
theorem dX5_jawAfter_11 : decode cX5_jawAfter 11 = .ok (.iconst 0, 1) := by decide +kernel
theorem dX5_jawAfter_12 : decode cX5_jawAfter 12 = .ok (.istore 4, 2) := by decide +kernel
theorem dX5_jawAfter_14 : decode cX5_jawAfter 14 = .ok (.iload 4, 2) := by decide +kernel
theorem dX5_jawAfter_16 : decode cX5_jawAfter 16 = .ok (.iload_n 3, 1) := by decide +kernel
theorem dX5_jawAfter_17 : decode cX5_jawAfter 17 = .ok (.if_icmp .ge 14, 3) := by decide +kernel
theorem dX5_jawAfter_20 : decode cX5_jawAfter 20 = .ok (.aload_n 0, 1) := by decide +kernel
theorem dX5_jawAfter_21 : decode cX5_jawAfter 21 = .ok (.aload_n 1, 1) := by decide +kernel
theorem dX5_jawAfter_22 : decode cX5_jawAfter 22 = .ok (.invokevirtual 47, 3) := by decide +kernel
theorem dX5_jawAfter_25 : decode cX5_jawAfter 25 = .ok (.iinc 4 1, 3) := by decide +kernel
theorem dX5_jawAfter_28 : decode cX5_jawAfter 28 = .ok (.goto (-14), 3) := by decide +kernel
theorem dX5_jawAfter_31 : decode cX5_jawAfter 31 = .ok (.aload_n 0, 1) := by decide +kernel
theorem dX5_jawAfter_32 : decode cX5_jawAfter 32 = .ok (.getfield 12, 3) := by decide +kernel
theorem dX5_jawAfter_35 : decode cX5_jawAfter 35 = .ok (.getfield 51, 3) := by decide +kernel
theorem dX5_jawAfter_38 : decode cX5_jawAfter 38 = .ok (.iload_n 2, 1) := by decide +kernel
theorem dX5_jawAfter_39 : decode cX5_jawAfter 39 = .ok (.iaload, 1) := by decide +kernel
theorem dX5_jawAfter_40 : decode cX5_jawAfter 40 = .ok (.ireturn, 1) := by decide +kernel
set_option maxRecDepth 20000 in
theorem ggX5_marksAfter_X2_copyFrom : GoodIn wsX5_marksAfter wsX2_copyFrom := goodIn_r _ [10, 11, 12, 13, 14, 15, 16, 17, 119, 120, 121, 122] (by decide +kernel) (by decide +kernel)
set_option maxRecDepth 20000 in
theorem gX5_marksAfter_X2_copyFrom : GoodIn wsX5_marksAfter (wsV RX5 43 RX2 yX2_copyFrom wsX2_copyFrom) := goodIn_app (goodIn_of _ (by decide +kernel)) ggX5_marksAfter_X2_copyFrom
set_option maxRecDepth 20000 in
theorem ggX5_marksAfter_X7_eventIn : GoodIn wsX5_marksAfter wsX7_eventIn := goodIn_r _ [22, 23, 24, 25, 26, 27, 106, 107, 108, 109, 110, 111, 112, 113, 114, 115, 116, 117, 118] (by decide +kernel) (by decide +kernel)
set_option maxRecDepth 20000 in
theorem gX5_marksAfter_X7_eventIn : GoodIn wsX5_marksAfter (wsV RX5 32 RX7 yX7_eventIn wsX7_eventIn) := goodIn_app (goodIn_of _ (by decide +kernel)) ggX5_marksAfter_X7_eventIn
set_option maxRecDepth 20000 in
theorem ggX5_marksAfter_X7_stir : GoodIn wsX5_marksAfter wsX7_stir := goodIn_r _ [31, 32, 33, 34, 35, 36, 21, 37, 38, 39, 40, 41, 42, 9, 43, 44, 45, 46, 47, 48, 49, 50, 51, 52, 53, 54, 55, 56, 57, 58, 59, 60, 61, 62, 63, 64, 65, 66, 67, 68, 69, 70, 71, 72, 73, 74, 75, 76, 77, 78, 79, 80, 119, 120, 121, 122, 106, 107, 108, 109, 110, 111, 112, 113, 114, 115, 116, 117, 118, 123, 124, 125, 126, 127, 128, 129] (by decide +kernel) (by decide +kernel)
set_option maxRecDepth 20000 in
theorem gX5_marksAfter_X7_stir : GoodIn wsX5_marksAfter (wsV RX5 38 RX7 yX7_stir wsX7_stir) := goodIn_app (goodIn_of _ (by decide +kernel)) ggX5_marksAfter_X7_stir
set_option maxRecDepth 20000 in
theorem ggX5_marksAfter_X7_grown : GoodIn wsX5_marksAfter wsX7_grown := goodIn_r _ [84, 85, 86, 33, 32, 87, 88, 40, 89, 72, 73, 74, 90, 91, 92, 93, 94, 95, 96, 97, 98, 51, 52, 53, 54, 55, 56, 57, 58, 59, 60, 61, 62, 63, 64, 65, 66, 67, 68, 69, 70, 71, 75, 76, 77, 78, 79, 80, 106, 107, 108, 109, 110, 111, 112, 113, 114, 115, 116, 117, 118, 119, 120, 121, 122, 123, 124, 125, 126, 127, 128, 129] (by decide +kernel) (by decide +kernel)
set_option maxRecDepth 20000 in
theorem gX5_marksAfter_X7_grown : GoodIn wsX5_marksAfter (wsV RX5 60 RX7 yX7_grown wsX7_grown) := goodIn_app (goodIn_of _ (by decide +kernel)) ggX5_marksAfter_X7_grown
theorem dX5_marksAfter_0 : decode cX5_marksAfter 0 = .ok (.aload_n 0, 1) := by decide +kernel
theorem dX5_marksAfter_1 : decode cX5_marksAfter 1 = .ok (.getfield 12, 3) := by decide +kernel
theorem dX5_marksAfter_4 : decode cX5_marksAfter 4 = .ok (.aload_n 1, 1) := by decide +kernel
theorem dX5_marksAfter_5 : decode cX5_marksAfter 5 = .ok (.getfield 42, 3) := by decide +kernel
theorem dX5_marksAfter_8 : decode cX5_marksAfter 8 = .ok (.invokevirtual 43, 3) := by decide +kernel
theorem dX5_marksAfter_11 : decode cX5_marksAfter 11 = .ok (.aload_n 0, 1) := by decide +kernel
theorem dX5_marksAfter_12 : decode cX5_marksAfter 12 = .ok (.getfield 12, 3) := by decide +kernel
theorem dX5_marksAfter_15 : decode cX5_marksAfter 15 = .ok (.iload 4, 2) := by decide +kernel
theorem dX5_marksAfter_17 : decode cX5_marksAfter 17 = .ok (.putfield 54, 3) := by decide +kernel
theorem dX5_marksAfter_20 : decode cX5_marksAfter 20 = .ok (.aload_n 1, 1) := by decide +kernel
theorem dX5_marksAfter_21 : decode cX5_marksAfter 21 = .ok (.getfield 57, 3) := by decide +kernel
theorem dX5_marksAfter_24 : decode cX5_marksAfter 24 = .ok (.iload_n 2, 1) := by decide +kernel
theorem dX5_marksAfter_25 : decode cX5_marksAfter 25 = .ok (.iaload, 1) := by decide +kernel
theorem dX5_marksAfter_26 : decode cX5_marksAfter 26 = .ok (.istore 5, 2) := by decide +kernel
theorem dX5_marksAfter_28 : decode cX5_marksAfter 28 = .ok (.iconst 0, 1) := by decide +kernel
theorem dX5_marksAfter_29 : decode cX5_marksAfter 29 = .ok (.istore 6, 2) := by decide +kernel
theorem dX5_marksAfter_31 : decode cX5_marksAfter 31 = .ok (.iload 6, 2) := by decide +kernel
theorem dX5_marksAfter_33 : decode cX5_marksAfter 33 = .ok (.iload_n 3, 1) := by decide +kernel
theorem dX5_marksAfter_34 : decode cX5_marksAfter 34 = .ok (.if_icmp .ge 54, 3) := by decide +kernel
theorem dX5_marksAfter_37 : decode cX5_marksAfter 37 = .ok (.aload_n 1, 1) := by decide +kernel
theorem dX5_marksAfter_38 : decode cX5_marksAfter 38 = .ok (.aload_n 0, 1) := by decide +kernel
theorem dX5_marksAfter_39 : decode cX5_marksAfter 39 = .ok (.getfield 12, 3) := by decide +kernel
theorem dX5_marksAfter_42 : decode cX5_marksAfter 42 = .ok (.aload_n 1, 1) := by decide +kernel
theorem dX5_marksAfter_43 : decode cX5_marksAfter 43 = .ok (.aload_n 0, 1) := by decide +kernel
theorem dX5_marksAfter_44 : decode cX5_marksAfter 44 = .ok (.getfield 12, 3) := by decide +kernel
theorem dX5_marksAfter_47 : decode cX5_marksAfter 47 = .ok (.getfield 28, 3) := by decide +kernel
theorem dX5_marksAfter_50 : decode cX5_marksAfter 50 = .ok (.invokevirtual 32, 3) := by decide +kernel
theorem dX5_marksAfter_53 : decode cX5_marksAfter 53 = .ok (.invokevirtual 38, 3) := by decide +kernel
theorem dX5_marksAfter_56 : decode cX5_marksAfter 56 = .ok (.aload_n 1, 1) := by decide +kernel
theorem dX5_marksAfter_57 : decode cX5_marksAfter 57 = .ok (.iload_n 2, 1) := by decide +kernel
theorem dX5_marksAfter_58 : decode cX5_marksAfter 58 = .ok (.iload 5, 2) := by decide +kernel
theorem dX5_marksAfter_60 : decode cX5_marksAfter 60 = .ok (.aload_n 0, 1) := by decide +kernel
theorem dX5_marksAfter_61 : decode cX5_marksAfter 61 = .ok (.getfield 12, 3) := by decide +kernel
theorem dX5_marksAfter_64 : decode cX5_marksAfter 64 = .ok (.invokevirtual 60, 3) := by decide +kernel
theorem dX5_marksAfter_67 : decode cX5_marksAfter 67 = .ok (.istore 5, 2) := by decide +kernel
theorem dX5_marksAfter_69 : decode cX5_marksAfter 69 = .ok (.aload_n 0, 1) := by decide +kernel
theorem dX5_marksAfter_70 : decode cX5_marksAfter 70 = .ok (.getfield 12, 3) := by decide +kernel
theorem dX5_marksAfter_73 : decode cX5_marksAfter 73 = .ok (.dup, 1) := by decide +kernel
theorem dX5_marksAfter_74 : decode cX5_marksAfter 74 = .ok (.getfield 28, 3) := by decide +kernel
theorem dX5_marksAfter_77 : decode cX5_marksAfter 77 = .ok (.iconst 1, 1) := by decide +kernel
theorem dX5_marksAfter_78 : decode cX5_marksAfter 78 = .ok (.iadd, 1) := by decide +kernel
theorem dX5_marksAfter_79 : decode cX5_marksAfter 79 = .ok (.putfield 28, 3) := by decide +kernel
theorem dX5_marksAfter_82 : decode cX5_marksAfter 82 = .ok (.iinc 6 1, 3) := by decide +kernel
theorem dX5_marksAfter_85 : decode cX5_marksAfter 85 = .ok (.goto (-54), 3) := by decide +kernel
theorem dX5_marksAfter_88 : decode cX5_marksAfter 88 = .ok (.iload 5, 2) := by decide +kernel
theorem dX5_marksAfter_90 : decode cX5_marksAfter 90 = .ok (.ireturn, 1) := by decide +kernel
set_option maxRecDepth 20000 in
theorem ggX5_yearsToLaugh_X2_copyFrom : GoodIn wsX5_yearsToLaugh wsX2_copyFrom := goodIn_r _ [8, 9, 10, 11, 12, 13, 14, 15, 105, 106, 107, 108] (by decide +kernel) (by decide +kernel)
set_option maxRecDepth 20000 in
theorem gX5_yearsToLaugh_X2_copyFrom : GoodIn wsX5_yearsToLaugh (wsV RX5 43 RX2 yX2_copyFrom wsX2_copyFrom) := goodIn_app (goodIn_of _ (by decide +kernel)) ggX5_yearsToLaugh_X2_copyFrom
set_option maxRecDepth 20000 in
theorem ggX5_yearsToLaugh_X5_stirYear : GoodIn wsX5_yearsToLaugh wsX5_stirYear := goodIn_r _ [20, 1, 21, 22, 23, 24, 25, 26, 27, 28, 29, 30, 31, 32, 33, 34, 35, 36, 37, 38, 39, 40, 41, 42, 43, 44, 45, 46, 7, 47, 48, 49, 50, 51, 52, 53, 54, 55, 56, 57, 58, 59, 60, 61, 62, 63, 64, 65, 66, 67, 68, 69, 70, 71, 72, 73, 74, 75, 76, 77, 78, 79, 80, 81, 82, 83, 84, 85, 86, 87, 88, 89, 90, 91, 105, 106, 107, 108, 92, 93, 94, 95, 96, 97, 98, 99, 100, 101, 102, 103, 104, 109, 110, 111, 112, 113, 114, 115] (by decide +kernel) (by decide +kernel)
set_option maxRecDepth 20000 in
theorem gX5_yearsToLaugh_X5_stirYear : GoodIn wsX5_yearsToLaugh (wsV RX5 47 RX5 yX5_stirYear wsX5_stirYear) := goodIn_app (goodIn_of _ (by decide +kernel)) ggX5_yearsToLaugh_X5_stirYear
theorem dX5_yearsToLaugh_0 : decode cX5_yearsToLaugh 0 = .ok (.aload_n 0, 1) := by decide +kernel
theorem dX5_yearsToLaugh_1 : decode cX5_yearsToLaugh 1 = .ok (.getfield 12, 3) := by decide +kernel
theorem dX5_yearsToLaugh_4 : decode cX5_yearsToLaugh 4 = .ok (.aload_n 1, 1) := by decide +kernel
theorem dX5_yearsToLaugh_5 : decode cX5_yearsToLaugh 5 = .ok (.getfield 42, 3) := by decide +kernel
theorem dX5_yearsToLaugh_8 : decode cX5_yearsToLaugh 8 = .ok (.invokevirtual 43, 3) := by decide +kernel
theorem dX5_yearsToLaugh_11 : decode cX5_yearsToLaugh 11 = .ok (.iconst 0, 1) := by decide +kernel
theorem dX5_yearsToLaugh_12 : decode cX5_yearsToLaugh 12 = .ok (.istore 4, 2) := by decide +kernel
theorem dX5_yearsToLaugh_14 : decode cX5_yearsToLaugh 14 = .ok (.iload 4, 2) := by decide +kernel
theorem dX5_yearsToLaugh_16 : decode cX5_yearsToLaugh 16 = .ok (.bipush 60, 2) := by decide +kernel
theorem dX5_yearsToLaugh_18 : decode cX5_yearsToLaugh 18 = .ok (.if_icmp .gt 30, 3) := by decide +kernel
theorem dX5_yearsToLaugh_21 : decode cX5_yearsToLaugh 21 = .ok (.aload_n 0, 1) := by decide +kernel
theorem dX5_yearsToLaugh_22 : decode cX5_yearsToLaugh 22 = .ok (.getfield 12, 3) := by decide +kernel
theorem dX5_yearsToLaugh_25 : decode cX5_yearsToLaugh 25 = .ok (.getfield 51, 3) := by decide +kernel
theorem dX5_yearsToLaugh_28 : decode cX5_yearsToLaugh 28 = .ok (.iload_n 2, 1) := by decide +kernel
theorem dX5_yearsToLaugh_29 : decode cX5_yearsToLaugh 29 = .ok (.iaload, 1) := by decide +kernel
theorem dX5_yearsToLaugh_30 : decode cX5_yearsToLaugh 30 = .ok (.iload_n 3, 1) := by decide +kernel
theorem dX5_yearsToLaugh_31 : decode cX5_yearsToLaugh 31 = .ok (.if_icmp .lt 6, 3) := by decide +kernel
theorem dX5_yearsToLaugh_34 : decode cX5_yearsToLaugh 34 = .ok (.iload 4, 2) := by decide +kernel
theorem dX5_yearsToLaugh_36 : decode cX5_yearsToLaugh 36 = .ok (.ireturn, 1) := by decide +kernel
theorem dX5_yearsToLaugh_37 : decode cX5_yearsToLaugh 37 = .ok (.aload_n 0, 1) := by decide +kernel
theorem dX5_yearsToLaugh_38 : decode cX5_yearsToLaugh 38 = .ok (.aload_n 1, 1) := by decide +kernel
theorem dX5_yearsToLaugh_39 : decode cX5_yearsToLaugh 39 = .ok (.invokevirtual 47, 3) := by decide +kernel
theorem dX5_yearsToLaugh_42 : decode cX5_yearsToLaugh 42 = .ok (.iinc 4 1, 3) := by decide +kernel
theorem dX5_yearsToLaugh_45 : decode cX5_yearsToLaugh 45 = .ok (.goto (-31), 3) := by decide +kernel
theorem dX5_yearsToLaugh_48 : decode cX5_yearsToLaugh 48 = .ok (.iconst (-1), 1) := by decide +kernel
theorem dX5_yearsToLaugh_49 : decode cX5_yearsToLaugh 49 = .ok (.ireturn, 1) := by decide +kernel
set_option maxRecDepth 20000 in
theorem ggX5_yearsToMatch_X2_copyFrom : GoodIn wsX5_yearsToMatch wsX2_copyFrom := goodIn_r _ [8, 9, 10, 11, 12, 13, 14, 15, 105, 106, 107, 108] (by decide +kernel) (by decide +kernel)
set_option maxRecDepth 20000 in
theorem gX5_yearsToMatch_X2_copyFrom : GoodIn wsX5_yearsToMatch (wsV RX5 43 RX2 yX2_copyFrom wsX2_copyFrom) := goodIn_app (goodIn_of _ (by decide +kernel)) ggX5_yearsToMatch_X2_copyFrom
set_option maxRecDepth 20000 in
theorem ggX5_yearsToMatch_X5_stirYear : GoodIn wsX5_yearsToMatch wsX5_stirYear := goodIn_r _ [20, 1, 21, 22, 23, 24, 25, 26, 27, 28, 29, 30, 31, 32, 33, 34, 35, 36, 37, 38, 39, 40, 41, 42, 43, 44, 45, 46, 7, 47, 48, 49, 50, 51, 52, 53, 54, 55, 56, 57, 58, 59, 60, 61, 62, 63, 64, 65, 66, 67, 68, 69, 70, 71, 72, 73, 74, 75, 76, 77, 78, 79, 80, 81, 82, 83, 84, 85, 86, 87, 88, 89, 90, 91, 105, 106, 107, 108, 92, 93, 94, 95, 96, 97, 98, 99, 100, 101, 102, 103, 104, 109, 110, 111, 112, 113, 114, 115] (by decide +kernel) (by decide +kernel)
set_option maxRecDepth 20000 in
theorem gX5_yearsToMatch_X5_stirYear : GoodIn wsX5_yearsToMatch (wsV RX5 47 RX5 yX5_stirYear wsX5_stirYear) := goodIn_app (goodIn_of _ (by decide +kernel)) ggX5_yearsToMatch_X5_stirYear
theorem dX5_yearsToMatch_0 : decode cX5_yearsToMatch 0 = .ok (.aload_n 0, 1) := by decide +kernel
theorem dX5_yearsToMatch_1 : decode cX5_yearsToMatch 1 = .ok (.getfield 12, 3) := by decide +kernel
theorem dX5_yearsToMatch_4 : decode cX5_yearsToMatch 4 = .ok (.aload_n 1, 1) := by decide +kernel
theorem dX5_yearsToMatch_5 : decode cX5_yearsToMatch 5 = .ok (.getfield 42, 3) := by decide +kernel
theorem dX5_yearsToMatch_8 : decode cX5_yearsToMatch 8 = .ok (.invokevirtual 43, 3) := by decide +kernel
theorem dX5_yearsToMatch_11 : decode cX5_yearsToMatch 11 = .ok (.iconst 0, 1) := by decide +kernel
theorem dX5_yearsToMatch_12 : decode cX5_yearsToMatch 12 = .ok (.istore_n 2, 1) := by decide +kernel
theorem dX5_yearsToMatch_13 : decode cX5_yearsToMatch 13 = .ok (.iload_n 2, 1) := by decide +kernel
theorem dX5_yearsToMatch_14 : decode cX5_yearsToMatch 14 = .ok (.bipush 60, 2) := by decide +kernel
theorem dX5_yearsToMatch_16 : decode cX5_yearsToMatch 16 = .ok (.if_icmp .gt 37, 3) := by decide +kernel
theorem dX5_yearsToMatch_19 : decode cX5_yearsToMatch 19 = .ok (.aload_n 0, 1) := by decide +kernel
theorem dX5_yearsToMatch_20 : decode cX5_yearsToMatch 20 = .ok (.getfield 12, 3) := by decide +kernel
theorem dX5_yearsToMatch_23 : decode cX5_yearsToMatch 23 = .ok (.getfield 51, 3) := by decide +kernel
theorem dX5_yearsToMatch_26 : decode cX5_yearsToMatch 26 = .ok (.iconst 0, 1) := by decide +kernel
theorem dX5_yearsToMatch_27 : decode cX5_yearsToMatch 27 = .ok (.iaload, 1) := by decide +kernel
theorem dX5_yearsToMatch_28 : decode cX5_yearsToMatch 28 = .ok (.aload_n 0, 1) := by decide +kernel
theorem dX5_yearsToMatch_29 : decode cX5_yearsToMatch 29 = .ok (.getfield 12, 3) := by decide +kernel
theorem dX5_yearsToMatch_32 : decode cX5_yearsToMatch 32 = .ok (.getfield 51, 3) := by decide +kernel
theorem dX5_yearsToMatch_35 : decode cX5_yearsToMatch 35 = .ok (.iconst 1, 1) := by decide +kernel
theorem dX5_yearsToMatch_36 : decode cX5_yearsToMatch 36 = .ok (.iaload, 1) := by decide +kernel
theorem dX5_yearsToMatch_37 : decode cX5_yearsToMatch 37 = .ok (.if_icmp .ne 5, 3) := by decide +kernel
theorem dX5_yearsToMatch_40 : decode cX5_yearsToMatch 40 = .ok (.iload_n 2, 1) := by decide +kernel
theorem dX5_yearsToMatch_41 : decode cX5_yearsToMatch 41 = .ok (.ireturn, 1) := by decide +kernel
theorem dX5_yearsToMatch_42 : decode cX5_yearsToMatch 42 = .ok (.aload_n 0, 1) := by decide +kernel
theorem dX5_yearsToMatch_43 : decode cX5_yearsToMatch 43 = .ok (.aload_n 1, 1) := by decide +kernel
theorem dX5_yearsToMatch_44 : decode cX5_yearsToMatch 44 = .ok (.invokevirtual 47, 3) := by decide +kernel
theorem dX5_yearsToMatch_47 : decode cX5_yearsToMatch 47 = .ok (.iinc 2 1, 3) := by decide +kernel
theorem dX5_yearsToMatch_50 : decode cX5_yearsToMatch 50 = .ok (.goto (-37), 3) := by decide +kernel
theorem dX5_yearsToMatch_53 : decode cX5_yearsToMatch 53 = .ok (.iconst (-1), 1) := by decide +kernel
theorem dX5_yearsToMatch_54 : decode cX5_yearsToMatch 54 = .ok (.ireturn, 1) := by decide +kernel
set_option maxRecDepth 20000 in
theorem ggX5_gather_X2_copyFrom : GoodIn wsX5_gather wsX2_copyFrom := goodIn_r _ [10, 11, 12, 13, 14, 15, 16, 17, 110, 111, 112, 113] (by decide +kernel) (by decide +kernel)
set_option maxRecDepth 20000 in
theorem gX5_gather_X2_copyFrom : GoodIn wsX5_gather (wsV RX5 43 RX2 yX2_copyFrom wsX2_copyFrom) := goodIn_app (goodIn_of _ (by decide +kernel)) ggX5_gather_X2_copyFrom
set_option maxRecDepth 20000 in
theorem ggX5_gather_X5_tells : GoodIn wsX5_gather wsX5_tells := goodIn_r _ [22, 23, 2, 24, 25, 26, 27, 28, 29, 30, 31, 32, 33, 34, 35, 36, 37, 38, 39, 40, 41, 42, 43, 44, 45, 46, 47, 48, 49, 50, 51, 9, 52, 53, 54, 55, 56, 57, 58, 59, 60, 61, 62, 63, 64, 65, 66, 67, 68, 69, 70, 71, 72, 73, 74, 75, 76, 77, 78, 79, 80, 81, 82, 83, 84, 85, 86, 87, 88, 89, 114, 115, 116, 90, 91, 92, 93, 94, 95, 96, 110, 111, 112, 113, 97, 98, 99, 100, 101, 102, 103, 104, 105, 106, 107, 108, 109, 117, 118, 119, 120, 121, 122, 123] (by decide +kernel) (by decide +kernel)
set_option maxRecDepth 20000 in
theorem gX5_gather_X5_tells : GoodIn wsX5_gather (wsV RX5 67 RX5 yX5_tells wsX5_tells) := goodIn_app (goodIn_of _ (by decide +kernel)) ggX5_gather_X5_tells
theorem dX5_gather_0 : decode cX5_gather 0 = .ok (.aload_n 0, 1) := by decide +kernel
theorem dX5_gather_1 : decode cX5_gather 1 = .ok (.iconst 0, 1) := by decide +kernel
theorem dX5_gather_2 : decode cX5_gather 2 = .ok (.putfield 64, 3) := by decide +kernel
theorem dX5_gather_5 : decode cX5_gather 5 = .ok (.iconst 0, 1) := by decide +kernel
theorem dX5_gather_6 : decode cX5_gather 6 = .ok (.istore 4, 2) := by decide +kernel
theorem dX5_gather_8 : decode cX5_gather 8 = .ok (.iload 4, 2) := by decide +kernel
theorem dX5_gather_10 : decode cX5_gather 10 = .ok (.sipush 256, 3) := by decide +kernel
theorem dX5_gather_13 : decode cX5_gather 13 = .ok (.if_icmp .ge 70, 3) := by decide +kernel
theorem dX5_gather_16 : decode cX5_gather 16 = .ok (.aload_n 0, 1) := by decide +kernel
theorem dX5_gather_17 : decode cX5_gather 17 = .ok (.getfield 12, 3) := by decide +kernel
theorem dX5_gather_20 : decode cX5_gather 20 = .ok (.aload_n 1, 1) := by decide +kernel
theorem dX5_gather_21 : decode cX5_gather 21 = .ok (.getfield 42, 3) := by decide +kernel
theorem dX5_gather_24 : decode cX5_gather 24 = .ok (.invokevirtual 43, 3) := by decide +kernel
theorem dX5_gather_27 : decode cX5_gather 27 = .ok (.aload_n 0, 1) := by decide +kernel
theorem dX5_gather_28 : decode cX5_gather 28 = .ok (.getfield 12, 3) := by decide +kernel
theorem dX5_gather_31 : decode cX5_gather 31 = .ok (.iload 4, 2) := by decide +kernel
theorem dX5_gather_33 : decode cX5_gather 33 = .ok (.putfield 54, 3) := by decide +kernel
theorem dX5_gather_36 : decode cX5_gather 36 = .ok (.aload_n 0, 1) := by decide +kernel
theorem dX5_gather_37 : decode cX5_gather 37 = .ok (.getfield 64, 3) := by decide +kernel
theorem dX5_gather_40 : decode cX5_gather 40 = .ok (.sipush 256, 3) := by decide +kernel
theorem dX5_gather_43 : decode cX5_gather 43 = .ok (.if_icmp .ge 34, 3) := by decide +kernel
theorem dX5_gather_46 : decode cX5_gather 46 = .ok (.aload_n 0, 1) := by decide +kernel
theorem dX5_gather_47 : decode cX5_gather 47 = .ok (.aload_n 1, 1) := by decide +kernel
theorem dX5_gather_48 : decode cX5_gather 48 = .ok (.aload_n 2, 1) := by decide +kernel
theorem dX5_gather_49 : decode cX5_gather 49 = .ok (.iload_n 3, 1) := by decide +kernel
theorem dX5_gather_50 : decode cX5_gather 50 = .ok (.invokevirtual 67, 3) := by decide +kernel
theorem dX5_gather_53 : decode cX5_gather 53 = .ok (.ifCond .eq 24, 3) := by decide +kernel
theorem dX5_gather_56 : decode cX5_gather 56 = .ok (.aload_n 0, 1) := by decide +kernel
theorem dX5_gather_57 : decode cX5_gather 57 = .ok (.getfield 18, 3) := by decide +kernel
theorem dX5_gather_60 : decode cX5_gather 60 = .ok (.aload_n 0, 1) := by decide +kernel
theorem dX5_gather_61 : decode cX5_gather 61 = .ok (.getfield 64, 3) := by decide +kernel
theorem dX5_gather_64 : decode cX5_gather 64 = .ok (.iload 4, 2) := by decide +kernel
theorem dX5_gather_66 : decode cX5_gather 66 = .ok (.iastore, 1) := by decide +kernel
theorem dX5_gather_67 : decode cX5_gather 67 = .ok (.aload_n 0, 1) := by decide +kernel
theorem dX5_gather_68 : decode cX5_gather 68 = .ok (.dup, 1) := by decide +kernel
theorem dX5_gather_69 : decode cX5_gather 69 = .ok (.getfield 64, 3) := by decide +kernel
theorem dX5_gather_72 : decode cX5_gather 72 = .ok (.iconst 1, 1) := by decide +kernel
theorem dX5_gather_73 : decode cX5_gather 73 = .ok (.iadd, 1) := by decide +kernel
theorem dX5_gather_74 : decode cX5_gather 74 = .ok (.putfield 64, 3) := by decide +kernel
theorem dX5_gather_77 : decode cX5_gather 77 = .ok (.iinc 4 1, 3) := by decide +kernel
theorem dX5_gather_80 : decode cX5_gather 80 = .ok (.goto (-72), 3) := by decide +kernel
theorem dX5_gather_83 : decode cX5_gather 83 = .ok (.return_, 1) := by decide +kernel
set_option maxRecDepth 20000 in
theorem ggX5_tells_X7_eventIn : GoodIn wsX5_tells wsX7_eventIn := goodIn_r _ [10, 11, 12, 13, 14, 15, 84, 85, 86, 87, 88, 89, 90, 91, 92, 93, 94, 95, 96] (by decide +kernel) (by decide +kernel)
set_option maxRecDepth 20000 in
theorem gX5_tells_X7_eventIn : GoodIn wsX5_tells (wsV RX5 32 RX7 yX7_eventIn wsX7_eventIn) := goodIn_app (goodIn_of _ (by decide +kernel)) ggX5_tells_X7_eventIn
set_option maxRecDepth 20000 in
theorem ggX5_tells_X7_stir : GoodIn wsX5_tells wsX7_stir := goodIn_r _ [19, 20, 21, 22, 23, 24, 9, 25, 26, 27, 28, 29, 30, 31, 32, 33, 34, 35, 36, 37, 38, 39, 40, 41, 42, 43, 44, 45, 46, 47, 48, 49, 50, 51, 52, 53, 54, 55, 56, 57, 58, 59, 60, 61, 62, 63, 64, 65, 66, 67, 68, 69, 80, 81, 82, 83, 84, 85, 86, 87, 88, 89, 90, 91, 92, 93, 94, 95, 96, 97, 98, 99, 100, 101, 102, 103] (by decide +kernel) (by decide +kernel)
set_option maxRecDepth 20000 in
theorem gX5_tells_X7_stir : GoodIn wsX5_tells (wsV RX5 38 RX7 yX7_stir wsX7_stir) := goodIn_app (goodIn_of _ (by decide +kernel)) ggX5_tells_X7_stir
theorem dX5_tells_0 : decode cX5_tells 0 = .ok (.iconst 0, 1) := by decide +kernel
theorem dX5_tells_1 : decode cX5_tells 1 = .ok (.istore 4, 2) := by decide +kernel
theorem dX5_tells_3 : decode cX5_tells 3 = .ok (.iload 4, 2) := by decide +kernel
theorem dX5_tells_5 : decode cX5_tells 5 = .ok (.aload_n 2, 1) := by decide +kernel
theorem dX5_tells_6 : decode cX5_tells 6 = .ok (.getfield 71, 3) := by decide +kernel
theorem dX5_tells_9 : decode cX5_tells 9 = .ok (.if_icmp .ge 67, 3) := by decide +kernel
theorem dX5_tells_12 : decode cX5_tells 12 = .ok (.iload 4, 2) := by decide +kernel
theorem dX5_tells_14 : decode cX5_tells 14 = .ok (.ifCond .le 35, 3) := by decide +kernel
theorem dX5_tells_17 : decode cX5_tells 17 = .ok (.aload_n 1, 1) := by decide +kernel
theorem dX5_tells_18 : decode cX5_tells 18 = .ok (.aload_n 0, 1) := by decide +kernel
theorem dX5_tells_19 : decode cX5_tells 19 = .ok (.getfield 12, 3) := by decide +kernel
theorem dX5_tells_22 : decode cX5_tells 22 = .ok (.aload_n 1, 1) := by decide +kernel
theorem dX5_tells_23 : decode cX5_tells 23 = .ok (.aload_n 0, 1) := by decide +kernel
theorem dX5_tells_24 : decode cX5_tells 24 = .ok (.getfield 12, 3) := by decide +kernel
theorem dX5_tells_27 : decode cX5_tells 27 = .ok (.getfield 28, 3) := by decide +kernel
theorem dX5_tells_30 : decode cX5_tells 30 = .ok (.invokevirtual 32, 3) := by decide +kernel
theorem dX5_tells_33 : decode cX5_tells 33 = .ok (.invokevirtual 38, 3) := by decide +kernel
theorem dX5_tells_36 : decode cX5_tells 36 = .ok (.aload_n 0, 1) := by decide +kernel
theorem dX5_tells_37 : decode cX5_tells 37 = .ok (.getfield 12, 3) := by decide +kernel
theorem dX5_tells_40 : decode cX5_tells 40 = .ok (.dup, 1) := by decide +kernel
theorem dX5_tells_41 : decode cX5_tells 41 = .ok (.getfield 28, 3) := by decide +kernel
theorem dX5_tells_44 : decode cX5_tells 44 = .ok (.iconst 1, 1) := by decide +kernel
theorem dX5_tells_45 : decode cX5_tells 45 = .ok (.iadd, 1) := by decide +kernel
theorem dX5_tells_46 : decode cX5_tells 46 = .ok (.putfield 28, 3) := by decide +kernel
theorem dX5_tells_49 : decode cX5_tells 49 = .ok (.aload_n 0, 1) := by decide +kernel
theorem dX5_tells_50 : decode cX5_tells 50 = .ok (.getfield 12, 3) := by decide +kernel
theorem dX5_tells_53 : decode cX5_tells 53 = .ok (.getfield 51, 3) := by decide +kernel
theorem dX5_tells_56 : decode cX5_tells 56 = .ok (.iload_n 3, 1) := by decide +kernel
theorem dX5_tells_57 : decode cX5_tells 57 = .ok (.iaload, 1) := by decide +kernel
theorem dX5_tells_58 : decode cX5_tells 58 = .ok (.aload_n 2, 1) := by decide +kernel
theorem dX5_tells_59 : decode cX5_tells 59 = .ok (.getfield 76, 3) := by decide +kernel
theorem dX5_tells_62 : decode cX5_tells 62 = .ok (.iload 4, 2) := by decide +kernel
theorem dX5_tells_64 : decode cX5_tells 64 = .ok (.iaload, 1) := by decide +kernel
theorem dX5_tells_65 : decode cX5_tells 65 = .ok (.if_icmp .eq 5, 3) := by decide +kernel
theorem dX5_tells_68 : decode cX5_tells 68 = .ok (.iconst 0, 1) := by decide +kernel
theorem dX5_tells_69 : decode cX5_tells 69 = .ok (.ireturn, 1) := by decide +kernel
theorem dX5_tells_70 : decode cX5_tells 70 = .ok (.iinc 4 1, 3) := by decide +kernel
theorem dX5_tells_73 : decode cX5_tells 73 = .ok (.goto (-70), 3) := by decide +kernel
theorem dX5_tells_76 : decode cX5_tells 76 = .ok (.iconst 1, 1) := by decide +kernel
theorem dX5_tells_77 : decode cX5_tells 77 = .ok (.ireturn, 1) := by decide +kernel
set_option maxRecDepth 20000 in
theorem ggX5_seekQuestion_X1_gives : GoodIn wsX5_seekQuestion wsX1_gives := goodIn_r _ [11, 12, 13, 14, 15, 10, 16, 17, 18, 19, 20, 21, 22, 23, 24, 25, 26, 27, 28, 29, 30, 31, 32, 33, 34, 35, 36, 85, 86, 87, 88, 89, 90, 91] (by decide +kernel) (by decide +kernel)
set_option maxRecDepth 20000 in
theorem gX5_seekQuestion_X1_gives : GoodIn wsX5_seekQuestion (wsV RX5 86 RX1 yX1_gives wsX1_gives) := goodIn_app (goodIn_of _ (by decide +kernel)) ggX5_seekQuestion_X1_gives
set_option maxRecDepth 20000 in
theorem ggX5_seekQuestion_X5_greatestGroup : GoodIn wsX5_seekQuestion wsX5_greatestGroup := goodIn_r _ [41, 42, 43, 44, 2, 45, 32, 29, 33, 46, 47, 48, 49, 50, 51, 52, 53, 54, 55, 56, 57, 58, 59, 60, 61, 62, 63, 64, 65, 66, 67] (by decide +kernel) (by decide +kernel)
set_option maxRecDepth 20000 in
theorem gX5_seekQuestion_X5_greatestGroup : GoodIn wsX5_seekQuestion (wsV RX5 92 RX5 yX5_greatestGroup wsX5_greatestGroup) := goodIn_app (goodIn_of _ (by decide +kernel)) ggX5_seekQuestion_X5_greatestGroup
theorem dX5_seekQuestion_0 : decode cX5_seekQuestion 0 = .ok (.aload_n 0, 1) := by decide +kernel
theorem dX5_seekQuestion_1 : decode cX5_seekQuestion 1 = .ok (.sipush 257, 3) := by decide +kernel
theorem dX5_seekQuestion_4 : decode cX5_seekQuestion 4 = .ok (.putfield 79, 3) := by decide +kernel
theorem dX5_seekQuestion_7 : decode cX5_seekQuestion 7 = .ok (.iconst 0, 1) := by decide +kernel
theorem dX5_seekQuestion_8 : decode cX5_seekQuestion 8 = .ok (.istore_n 3, 1) := by decide +kernel
theorem dX5_seekQuestion_9 : decode cX5_seekQuestion 9 = .ok (.iload_n 3, 1) := by decide +kernel
theorem dX5_seekQuestion_10 : decode cX5_seekQuestion 10 = .ok (.sipush 256, 3) := by decide +kernel
theorem dX5_seekQuestion_13 : decode cX5_seekQuestion 13 = .ok (.if_icmp .ge 83, 3) := by decide +kernel
theorem dX5_seekQuestion_16 : decode cX5_seekQuestion 16 = .ok (.iconst 0, 1) := by decide +kernel
theorem dX5_seekQuestion_17 : decode cX5_seekQuestion 17 = .ok (.istore 4, 2) := by decide +kernel
theorem dX5_seekQuestion_19 : decode cX5_seekQuestion 19 = .ok (.iload 4, 2) := by decide +kernel
theorem dX5_seekQuestion_21 : decode cX5_seekQuestion 21 = .ok (.bipush 9, 2) := by decide +kernel
theorem dX5_seekQuestion_23 : decode cX5_seekQuestion 23 = .ok (.if_icmp .ge 39, 3) := by decide +kernel
theorem dX5_seekQuestion_26 : decode cX5_seekQuestion 26 = .ok (.aload_n 0, 1) := by decide +kernel
theorem dX5_seekQuestion_27 : decode cX5_seekQuestion 27 = .ok (.getfield 22, 3) := by decide +kernel
theorem dX5_seekQuestion_30 : decode cX5_seekQuestion 30 = .ok (.iload 4, 2) := by decide +kernel
theorem dX5_seekQuestion_32 : decode cX5_seekQuestion 32 = .ok (.aload_n 1, 1) := by decide +kernel
theorem dX5_seekQuestion_33 : decode cX5_seekQuestion 33 = .ok (.getfield 82, 3) := by decide +kernel
theorem dX5_seekQuestion_36 : decode cX5_seekQuestion 36 = .ok (.iload 4, 2) := by decide +kernel
theorem dX5_seekQuestion_38 : decode cX5_seekQuestion 38 = .ok (.iload_n 3, 1) := by decide +kernel
theorem dX5_seekQuestion_39 : decode cX5_seekQuestion 39 = .ok (.bipush 16, 2) := by decide +kernel
theorem dX5_seekQuestion_41 : decode cX5_seekQuestion 41 = .ok (.irem, 1) := by decide +kernel
theorem dX5_seekQuestion_42 : decode cX5_seekQuestion 42 = .ok (.aload_n 1, 1) := by decide +kernel
theorem dX5_seekQuestion_43 : decode cX5_seekQuestion 43 = .ok (.getfield 42, 3) := by decide +kernel
theorem dX5_seekQuestion_46 : decode cX5_seekQuestion 46 = .ok (.getfield 28, 3) := by decide +kernel
theorem dX5_seekQuestion_49 : decode cX5_seekQuestion 49 = .ok (.bipush 8, 2) := by decide +kernel
theorem dX5_seekQuestion_51 : decode cX5_seekQuestion 51 = .ok (.irem, 1) := by decide +kernel
theorem dX5_seekQuestion_52 : decode cX5_seekQuestion 52 = .ok (.invokevirtual 86, 3) := by decide +kernel
theorem dX5_seekQuestion_55 : decode cX5_seekQuestion 55 = .ok (.iastore, 1) := by decide +kernel
theorem dX5_seekQuestion_56 : decode cX5_seekQuestion 56 = .ok (.iinc 4 1, 3) := by decide +kernel
theorem dX5_seekQuestion_59 : decode cX5_seekQuestion 59 = .ok (.goto (-40), 3) := by decide +kernel
theorem dX5_seekQuestion_62 : decode cX5_seekQuestion 62 = .ok (.aload_n 0, 1) := by decide +kernel
theorem dX5_seekQuestion_63 : decode cX5_seekQuestion 63 = .ok (.iload_n 2, 1) := by decide +kernel
theorem dX5_seekQuestion_64 : decode cX5_seekQuestion 64 = .ok (.iload_n 3, 1) := by decide +kernel
theorem dX5_seekQuestion_65 : decode cX5_seekQuestion 65 = .ok (.invokevirtual 92, 3) := by decide +kernel
theorem dX5_seekQuestion_68 : decode cX5_seekQuestion 68 = .ok (.istore 4, 2) := by decide +kernel
theorem dX5_seekQuestion_70 : decode cX5_seekQuestion 70 = .ok (.iload 4, 2) := by decide +kernel
theorem dX5_seekQuestion_72 : decode cX5_seekQuestion 72 = .ok (.aload_n 0, 1) := by decide +kernel
theorem dX5_seekQuestion_73 : decode cX5_seekQuestion 73 = .ok (.getfield 79, 3) := by decide +kernel
theorem dX5_seekQuestion_76 : decode cX5_seekQuestion 76 = .ok (.if_icmp .ge 14, 3) := by decide +kernel
theorem dX5_seekQuestion_79 : decode cX5_seekQuestion 79 = .ok (.aload_n 0, 1) := by decide +kernel
theorem dX5_seekQuestion_80 : decode cX5_seekQuestion 80 = .ok (.iload 4, 2) := by decide +kernel
theorem dX5_seekQuestion_82 : decode cX5_seekQuestion 82 = .ok (.putfield 79, 3) := by decide +kernel
theorem dX5_seekQuestion_85 : decode cX5_seekQuestion 85 = .ok (.aload_n 0, 1) := by decide +kernel
theorem dX5_seekQuestion_86 : decode cX5_seekQuestion 86 = .ok (.iload_n 3, 1) := by decide +kernel
theorem dX5_seekQuestion_87 : decode cX5_seekQuestion 87 = .ok (.putfield 96, 3) := by decide +kernel
theorem dX5_seekQuestion_90 : decode cX5_seekQuestion 90 = .ok (.iinc 3 1, 3) := by decide +kernel
theorem dX5_seekQuestion_93 : decode cX5_seekQuestion 93 = .ok (.goto (-84), 3) := by decide +kernel
theorem dX5_seekQuestion_96 : decode cX5_seekQuestion 96 = .ok (.return_, 1) := by decide +kernel
set_option maxRecDepth 20000 in
theorem ggX5_greatestGroup_J7_fill_53178 : GoodIn wsX5_greatestGroup wsJ7_fill_53178 := goodIn_r _ [12] (by decide +kernel) (by decide +kernel)
set_option maxRecDepth 20000 in
theorem gX5_greatestGroup_J7_fill_53178 : GoodIn wsX5_greatestGroup (va_wsS RX5 99 yJ7_fill_53178 wsJ7_fill_53178) := goodIn_app (goodIn_of _ (by decide +kernel)) ggX5_greatestGroup_J7_fill_53178
set_option maxRecDepth 20000 in
theorem ggX5_greatestGroup_X2_signsOf : GoodIn wsX5_greatestGroup wsX2_signsOf := goodIn_r _ [16, 17, 18, 19, 20, 21, 22, 23] (by decide +kernel) (by decide +kernel)
set_option maxRecDepth 20000 in
theorem gX5_greatestGroup_X2_signsOf : GoodIn wsX5_greatestGroup (va_wsS RX5 105 yX2_signsOf wsX2_signsOf) := goodIn_app (goodIn_of _ (by decide +kernel)) ggX5_greatestGroup_X2_signsOf
theorem dX5_greatestGroup_0 : decode cX5_greatestGroup 0 = .ok (.aload_n 0, 1) := by decide +kernel
theorem dX5_greatestGroup_1 : decode cX5_greatestGroup 1 = .ok (.getfield 25, 3) := by decide +kernel
theorem dX5_greatestGroup_4 : decode cX5_greatestGroup 4 = .ok (.iconst 0, 1) := by decide +kernel
theorem dX5_greatestGroup_5 : decode cX5_greatestGroup 5 = .ok (.invokestatic 99, 3) := by decide +kernel
theorem dX5_greatestGroup_8 : decode cX5_greatestGroup 8 = .ok (.iconst 0, 1) := by decide +kernel
theorem dX5_greatestGroup_9 : decode cX5_greatestGroup 9 = .ok (.istore_n 3, 1) := by decide +kernel
theorem dX5_greatestGroup_10 : decode cX5_greatestGroup 10 = .ok (.iconst 0, 1) := by decide +kernel
theorem dX5_greatestGroup_11 : decode cX5_greatestGroup 11 = .ok (.istore 4, 2) := by decide +kernel
theorem dX5_greatestGroup_13 : decode cX5_greatestGroup 13 = .ok (.iload 4, 2) := by decide +kernel
theorem dX5_greatestGroup_15 : decode cX5_greatestGroup 15 = .ok (.aload_n 0, 1) := by decide +kernel
theorem dX5_greatestGroup_16 : decode cX5_greatestGroup 16 = .ok (.getfield 64, 3) := by decide +kernel
theorem dX5_greatestGroup_19 : decode cX5_greatestGroup 19 = .ok (.if_icmp .ge 78, 3) := by decide +kernel
theorem dX5_greatestGroup_22 : decode cX5_greatestGroup 22 = .ok (.iload_n 1, 1) := by decide +kernel
theorem dX5_greatestGroup_23 : decode cX5_greatestGroup 23 = .ok (.aload_n 0, 1) := by decide +kernel
theorem dX5_greatestGroup_24 : decode cX5_greatestGroup 24 = .ok (.getfield 18, 3) := by decide +kernel
theorem dX5_greatestGroup_27 : decode cX5_greatestGroup 27 = .ok (.iload 4, 2) := by decide +kernel
theorem dX5_greatestGroup_29 : decode cX5_greatestGroup 29 = .ok (.iaload, 1) := by decide +kernel
theorem dX5_greatestGroup_30 : decode cX5_greatestGroup 30 = .ok (.iload_n 2, 1) := by decide +kernel
theorem dX5_greatestGroup_31 : decode cX5_greatestGroup 31 = .ok (.invokestatic 105, 3) := by decide +kernel
theorem dX5_greatestGroup_34 : decode cX5_greatestGroup 34 = .ok (.istore 5, 2) := by decide +kernel
theorem dX5_greatestGroup_36 : decode cX5_greatestGroup 36 = .ok (.iload 5, 2) := by decide +kernel
theorem dX5_greatestGroup_38 : decode cX5_greatestGroup 38 = .ok (.bipush 9, 2) := by decide +kernel
theorem dX5_greatestGroup_40 : decode cX5_greatestGroup 40 = .ok (.if_icmp .ge 13, 3) := by decide +kernel
theorem dX5_greatestGroup_43 : decode cX5_greatestGroup 43 = .ok (.aload_n 0, 1) := by decide +kernel
theorem dX5_greatestGroup_44 : decode cX5_greatestGroup 44 = .ok (.getfield 22, 3) := by decide +kernel
theorem dX5_greatestGroup_47 : decode cX5_greatestGroup 47 = .ok (.iload 5, 2) := by decide +kernel
theorem dX5_greatestGroup_49 : decode cX5_greatestGroup 49 = .ok (.iaload, 1) := by decide +kernel
theorem dX5_greatestGroup_50 : decode cX5_greatestGroup 50 = .ok (.goto 4, 3) := by decide +kernel
theorem dX5_greatestGroup_53 : decode cX5_greatestGroup 53 = .ok (.iconst (-1), 1) := by decide +kernel
theorem dX5_greatestGroup_54 : decode cX5_greatestGroup 54 = .ok (.istore 6, 2) := by decide +kernel
theorem dX5_greatestGroup_56 : decode cX5_greatestGroup 56 = .ok (.iload 6, 2) := by decide +kernel
theorem dX5_greatestGroup_58 : decode cX5_greatestGroup 58 = .ok (.ifCond .lt 33, 3) := by decide +kernel
theorem dX5_greatestGroup_61 : decode cX5_greatestGroup 61 = .ok (.iload 6, 2) := by decide +kernel
theorem dX5_greatestGroup_63 : decode cX5_greatestGroup 63 = .ok (.bipush 30, 2) := by decide +kernel
theorem dX5_greatestGroup_65 : decode cX5_greatestGroup 65 = .ok (.if_icmp .gt 26, 3) := by decide +kernel
theorem dX5_greatestGroup_68 : decode cX5_greatestGroup 68 = .ok (.aload_n 0, 1) := by decide +kernel
theorem dX5_greatestGroup_69 : decode cX5_greatestGroup 69 = .ok (.getfield 25, 3) := by decide +kernel
theorem dX5_greatestGroup_72 : decode cX5_greatestGroup 72 = .ok (.iload 6, 2) := by decide +kernel
theorem dX5_greatestGroup_74 : decode cX5_greatestGroup 74 = .ok (.dup2, 1) := by decide +kernel
theorem dX5_greatestGroup_75 : decode cX5_greatestGroup 75 = .ok (.iaload, 1) := by decide +kernel
theorem dX5_greatestGroup_76 : decode cX5_greatestGroup 76 = .ok (.iconst 1, 1) := by decide +kernel
theorem dX5_greatestGroup_77 : decode cX5_greatestGroup 77 = .ok (.iadd, 1) := by decide +kernel
theorem dX5_greatestGroup_78 : decode cX5_greatestGroup 78 = .ok (.iastore, 1) := by decide +kernel
theorem dX5_greatestGroup_79 : decode cX5_greatestGroup 79 = .ok (.iload_n 3, 1) := by decide +kernel
theorem dX5_greatestGroup_80 : decode cX5_greatestGroup 80 = .ok (.aload_n 0, 1) := by decide +kernel
theorem dX5_greatestGroup_81 : decode cX5_greatestGroup 81 = .ok (.getfield 25, 3) := by decide +kernel
theorem dX5_greatestGroup_84 : decode cX5_greatestGroup 84 = .ok (.iload 6, 2) := by decide +kernel
theorem dX5_greatestGroup_86 : decode cX5_greatestGroup 86 = .ok (.iaload, 1) := by decide +kernel
theorem dX5_greatestGroup_87 : decode cX5_greatestGroup 87 = .ok (.invokestatic 108, 3) := by decide +kernel
theorem dX5_greatestGroup_90 : decode cX5_greatestGroup 90 = .ok (.istore_n 3, 1) := by decide +kernel
theorem dX5_greatestGroup_91 : decode cX5_greatestGroup 91 = .ok (.iinc 4 1, 3) := by decide +kernel
theorem dX5_greatestGroup_94 : decode cX5_greatestGroup 94 = .ok (.goto (-81), 3) := by decide +kernel
theorem dX5_greatestGroup_97 : decode cX5_greatestGroup 97 = .ok (.iload_n 3, 1) := by decide +kernel
theorem dX5_greatestGroup_98 : decode cX5_greatestGroup 98 = .ok (.ireturn, 1) := by decide +kernel
set_option maxRecDepth 20000 in
theorem ggX5_chances_X5_marksAfter : GoodIn wsX5_chances wsX5_marksAfter := goodIn_r _ [5, 6, 7, 8, 9, 10, 11, 12, 13, 14, 15, 16, 17, 18, 19, 20, 21, 22, 23, 24, 25, 26, 27, 28, 29, 30, 31, 32, 33, 34, 35, 36, 37, 38, 39, 40, 41, 42, 43, 44, 45, 46, 47, 48, 49, 50, 51, 52, 53, 54, 55, 56, 57, 58, 59, 60, 61, 62, 63, 64, 65, 66, 67, 68, 69, 70, 71, 72, 73, 74, 75, 76, 77, 78, 79, 80, 81, 82, 83, 84, 85, 86, 87, 88, 89, 90, 91, 92, 93, 94, 95, 96, 97, 98, 99, 100, 101, 102, 103, 104, 105, 106, 107, 108, 109, 110, 111, 112, 113, 114, 115, 116, 117, 118, 119, 120, 121, 122, 123, 124, 125, 126, 127, 128, 129, 130, 131, 132, 133, 134] (by decide +kernel) (by decide +kernel)
set_option maxRecDepth 20000 in
theorem gX5_chances_X5_marksAfter : GoodIn wsX5_chances (wsV RX5 113 RX5 yX5_marksAfter wsX5_marksAfter) := goodIn_app (goodIn_of _ (by decide +kernel)) ggX5_chances_X5_marksAfter
theorem dX5_chances_0 : decode cX5_chances 0 = .ok (.iconst 0, 1) := by decide +kernel
theorem dX5_chances_1 : decode cX5_chances 1 = .ok (.istore 5, 2) := by decide +kernel
theorem dX5_chances_3 : decode cX5_chances 3 = .ok (.iconst 0, 1) := by decide +kernel
theorem dX5_chances_4 : decode cX5_chances 4 = .ok (.istore 6, 2) := by decide +kernel
theorem dX5_chances_6 : decode cX5_chances 6 = .ok (.iload 6, 2) := by decide +kernel
theorem dX5_chances_8 : decode cX5_chances 8 = .ok (.sipush 256, 3) := by decide +kernel
theorem dX5_chances_11 : decode cX5_chances 11 = .ok (.if_icmp .ge 26, 3) := by decide +kernel
theorem dX5_chances_14 : decode cX5_chances 14 = .ok (.aload_n 0, 1) := by decide +kernel
theorem dX5_chances_15 : decode cX5_chances 15 = .ok (.aload_n 1, 1) := by decide +kernel
theorem dX5_chances_16 : decode cX5_chances 16 = .ok (.iload_n 2, 1) := by decide +kernel
theorem dX5_chances_17 : decode cX5_chances 17 = .ok (.iload 4, 2) := by decide +kernel
theorem dX5_chances_19 : decode cX5_chances 19 = .ok (.iload 6, 2) := by decide +kernel
theorem dX5_chances_21 : decode cX5_chances 21 = .ok (.invokevirtual 113, 3) := by decide +kernel
theorem dX5_chances_24 : decode cX5_chances 24 = .ok (.iload_n 3, 1) := by decide +kernel
theorem dX5_chances_25 : decode cX5_chances 25 = .ok (.if_icmp .lt 6, 3) := by decide +kernel
theorem dX5_chances_28 : decode cX5_chances 28 = .ok (.iinc 5 1, 3) := by decide +kernel
theorem dX5_chances_31 : decode cX5_chances 31 = .ok (.iinc 6 1, 3) := by decide +kernel
theorem dX5_chances_34 : decode cX5_chances 34 = .ok (.goto (-28), 3) := by decide +kernel
theorem dX5_chances_37 : decode cX5_chances 37 = .ok (.iload 5, 2) := by decide +kernel
theorem dX5_chances_39 : decode cX5_chances 39 = .ok (.ireturn, 1) := by decide +kernel
theorem dX6_init_0 : decode cX6_init 0 = .ok (.aload_n 0, 1) := by decide +kernel
theorem dX6_init_1 : decode cX6_init 1 = .ok (.invokespecial 3, 3) := by decide +kernel
theorem dX6_init_4 : decode cX6_init 4 = .ok (.aload_n 0, 1) := by decide +kernel
theorem dX6_init_5 : decode cX6_init 5 = .ok (.bipush 30, 2) := by decide +kernel
theorem dX6_init_7 : decode cX6_init 7 = .ok (.newarray .int, 2) := by decide +kernel
theorem dX6_init_9 : decode cX6_init 9 = .ok (.putfield 9, 3) := by decide +kernel
theorem dX6_init_12 : decode cX6_init 12 = .ok (.return_, 1) := by decide +kernel
set_option maxRecDepth 20000 in
theorem ggX6_speak_X6_own : GoodIn wsX6_speak wsX6_own := goodIn_r _ [10, 1, 11, 12, 13, 9, 14, 15, 16, 17, 18, 19, 20, 4, 21, 5, 22, 23, 24, 25, 26, 2, 3, 6, 7, 8, 27, 28, 29, 30, 31, 32, 33, 34, 35] (by decide +kernel) (by decide +kernel)
set_option maxRecDepth 20000 in
theorem gX6_speak_X6_own : GoodIn wsX6_speak (wsV RX6 32 RX6 yX6_own wsX6_own) := goodIn_app (goodIn_of _ (by decide +kernel)) ggX6_speak_X6_own
theorem dX6_speak_0 : decode cX6_speak 0 = .ok (.aload_n 0, 1) := by decide +kernel
theorem dX6_speak_1 : decode cX6_speak 1 = .ok (.iload_n 1, 1) := by decide +kernel
theorem dX6_speak_2 : decode cX6_speak 2 = .ok (.putfield 15, 3) := by decide +kernel
theorem dX6_speak_5 : decode cX6_speak 5 = .ok (.aload_n 0, 1) := by decide +kernel
theorem dX6_speak_6 : decode cX6_speak 6 = .ok (.iload_n 2, 1) := by decide +kernel
theorem dX6_speak_7 : decode cX6_speak 7 = .ok (.putfield 19, 3) := by decide +kernel
theorem dX6_speak_10 : decode cX6_speak 10 = .ok (.aload_n 0, 1) := by decide +kernel
theorem dX6_speak_11 : decode cX6_speak 11 = .ok (.iload_n 3, 1) := by decide +kernel
theorem dX6_speak_12 : decode cX6_speak 12 = .ok (.putfield 22, 3) := by decide +kernel
theorem dX6_speak_15 : decode cX6_speak 15 = .ok (.aload_n 0, 1) := by decide +kernel
theorem dX6_speak_16 : decode cX6_speak 16 = .ok (.iconst 0, 1) := by decide +kernel
theorem dX6_speak_17 : decode cX6_speak 17 = .ok (.putfield 25, 3) := by decide +kernel
theorem dX6_speak_20 : decode cX6_speak 20 = .ok (.aload_n 0, 1) := by decide +kernel
theorem dX6_speak_21 : decode cX6_speak 21 = .ok (.iconst 0, 1) := by decide +kernel
theorem dX6_speak_22 : decode cX6_speak 22 = .ok (.putfield 29, 3) := by decide +kernel
theorem dX6_speak_25 : decode cX6_speak 25 = .ok (.aload_n 0, 1) := by decide +kernel
theorem dX6_speak_26 : decode cX6_speak 26 = .ok (.iload 4, 2) := by decide +kernel
theorem dX6_speak_28 : decode cX6_speak 28 = .ok (.iload 5, 2) := by decide +kernel
theorem dX6_speak_30 : decode cX6_speak 30 = .ok (.iconst 0, 1) := by decide +kernel
theorem dX6_speak_31 : decode cX6_speak 31 = .ok (.invokevirtual 32, 3) := by decide +kernel
theorem dX6_speak_34 : decode cX6_speak 34 = .ok (.ireturn, 1) := by decide +kernel
set_option maxRecDepth 20000 in
theorem ggX6_own_X6_from : GoodIn wsX6_own wsX6_from := goodIn_r _ [12, 13, 14, 15, 16, 17, 18, 19, 5, 6, 7, 8, 9, 10, 11, 2, 3, 4, 0, 1, 20, 21, 22, 23, 24, 25, 26, 27, 28, 29, 30, 31, 32, 33, 34] (by decide +kernel) (by decide +kernel)
set_option maxRecDepth 20000 in
theorem gX6_own_X6_from : GoodIn wsX6_own (wsV RX6 36 RX6 yX6_from wsX6_from) := goodIn_app (goodIn_of _ (by decide +kernel)) ggX6_own_X6_from
theorem dX6_own_0 : decode cX6_own 0 = .ok (.aload_n 0, 1) := by decide +kernel
theorem dX6_own_1 : decode cX6_own 1 = .ok (.aload_n 0, 1) := by decide +kernel
theorem dX6_own_2 : decode cX6_own 2 = .ok (.getfield 15, 3) := by decide +kernel
theorem dX6_own_5 : decode cX6_own 5 = .ok (.iload_n 1, 1) := by decide +kernel
theorem dX6_own_6 : decode cX6_own 6 = .ok (.iload_n 2, 1) := by decide +kernel
theorem dX6_own_7 : decode cX6_own 7 = .ok (.iload_n 3, 1) := by decide +kernel
theorem dX6_own_8 : decode cX6_own 8 = .ok (.invokevirtual 36, 3) := by decide +kernel
theorem dX6_own_11 : decode cX6_own 11 = .ok (.ireturn, 1) := by decide +kernel
set_option maxRecDepth 20000 in
theorem ggX6_above_X0_above : GoodIn wsX6_above wsX0_above := goodIn_r _ [4, 5] (by decide +kernel) (by decide +kernel)
set_option maxRecDepth 20000 in
theorem gX6_above_X0_above : GoodIn wsX6_above (va_wsS RX6 40 yX0_above wsX0_above) := goodIn_app (goodIn_of _ (by decide +kernel)) ggX6_above_X0_above
set_option maxRecDepth 20000 in
theorem ggX6_above_X6_from : GoodIn wsX6_above wsX6_from := goodIn_r _ [10, 11, 12, 13, 14, 15, 16, 17, 9, 0, 1, 2, 3, 4, 5, 6, 7, 8, 18, 19, 20, 21, 22, 23, 24, 25, 26, 27, 28, 29, 30, 31, 32, 33, 34] (by decide +kernel) (by decide +kernel)
set_option maxRecDepth 20000 in
theorem gX6_above_X6_from : GoodIn wsX6_above (wsV RX6 36 RX6 yX6_from wsX6_from) := goodIn_app (goodIn_of _ (by decide +kernel)) ggX6_above_X6_from
theorem dX6_above_0 : decode cX6_above 0 = .ok (.aload_n 0, 1) := by decide +kernel
theorem dX6_above_1 : decode cX6_above 1 = .ok (.iload_n 1, 1) := by decide +kernel
theorem dX6_above_2 : decode cX6_above 2 = .ok (.bipush 10, 2) := by decide +kernel
theorem dX6_above_4 : decode cX6_above 4 = .ok (.idiv, 1) := by decide +kernel
theorem dX6_above_5 : decode cX6_above 5 = .ok (.iconst 1, 1) := by decide +kernel
theorem dX6_above_6 : decode cX6_above 6 = .ok (.isub, 1) := by decide +kernel
theorem dX6_above_7 : decode cX6_above 7 = .ok (.invokestatic 40, 3) := by decide +kernel
theorem dX6_above_10 : decode cX6_above 10 = .ok (.iload_n 2, 1) := by decide +kernel
theorem dX6_above_11 : decode cX6_above 11 = .ok (.iload_n 3, 1) := by decide +kernel
theorem dX6_above_12 : decode cX6_above 12 = .ok (.iload 4, 2) := by decide +kernel
theorem dX6_above_14 : decode cX6_above 14 = .ok (.invokevirtual 36, 3) := by decide +kernel
theorem dX6_above_17 : decode cX6_above 17 = .ok (.ireturn, 1) := by decide +kernel
set_option maxRecDepth 20000 in
theorem ggX6_from_X6_run : GoodIn wsX6_from wsX6_run := goodIn_r _ [20, 21, 22, 1, 23, 24, 25, 8, 26, 27, 28, 9, 10, 11, 12, 13, 14, 15, 16, 17, 0, 2, 3, 4, 5, 6, 7, 18, 19, 29, 30, 31, 32, 33, 34] (by decide +kernel) (by decide +kernel)
set_option maxRecDepth 20000 in
theorem gX6_from_X6_run : GoodIn wsX6_from (wsV RX6 49 RX6 yX6_run wsX6_run) := goodIn_app (goodIn_of _ (by decide +kernel)) ggX6_from_X6_run
theorem dX6_from_0 : decode cX6_from 0 = .ok (.iconst 4, 1) := by decide +kernel
theorem dX6_from_1 : decode cX6_from 1 = .ok (.iload_n 1, 1) := by decide +kernel
theorem dX6_from_2 : decode cX6_from 2 = .ok (.imul, 1) := by decide +kernel
theorem dX6_from_3 : decode cX6_from 3 = .ok (.iload_n 2, 1) := by decide +kernel
theorem dX6_from_4 : decode cX6_from 4 = .ok (.iadd, 1) := by decide +kernel
theorem dX6_from_5 : decode cX6_from 5 = .ok (.istore 5, 2) := by decide +kernel
theorem dX6_from_7 : decode cX6_from 7 = .ok (.aload_n 0, 1) := by decide +kernel
theorem dX6_from_8 : decode cX6_from 8 = .ok (.getfield 25, 3) := by decide +kernel
theorem dX6_from_11 : decode cX6_from 11 = .ok (.ifCond .ne 24, 3) := by decide +kernel
theorem dX6_from_14 : decode cX6_from 14 = .ok (.iload 4, 2) := by decide +kernel
theorem dX6_from_16 : decode cX6_from 16 = .ok (.bipush 40, 2) := by decide +kernel
theorem dX6_from_18 : decode cX6_from 18 = .ok (.if_icmp .ge 17, 3) := by decide +kernel
theorem dX6_from_21 : decode cX6_from 21 = .ok (.iload 5, 2) := by decide +kernel
theorem dX6_from_23 : decode cX6_from 23 = .ok (.ifCond .lt 12, 3) := by decide +kernel
theorem dX6_from_26 : decode cX6_from 26 = .ok (.iload 5, 2) := by decide +kernel
theorem dX6_from_28 : decode cX6_from 28 = .ok (.getstatic 46, 3) := by decide +kernel
theorem dX6_from_31 : decode cX6_from 31 = .ok (.arraylength, 1) := by decide +kernel
theorem dX6_from_32 : decode cX6_from 32 = .ok (.if_icmp .lt 5, 3) := by decide +kernel
theorem dX6_from_35 : decode cX6_from 35 = .ok (.iconst 0, 1) := by decide +kernel
theorem dX6_from_36 : decode cX6_from 36 = .ok (.ireturn, 1) := by decide +kernel
theorem dX6_from_37 : decode cX6_from 37 = .ok (.getstatic 46, 3) := by decide +kernel
theorem dX6_from_40 : decode cX6_from 40 = .ok (.iload 5, 2) := by decide +kernel
theorem dX6_from_42 : decode cX6_from 42 = .ok (.iaload, 1) := by decide +kernel
theorem dX6_from_43 : decode cX6_from 43 = .ok (.istore 6, 2) := by decide +kernel
theorem dX6_from_45 : decode cX6_from 45 = .ok (.aload_n 0, 1) := by decide +kernel
theorem dX6_from_46 : decode cX6_from 46 = .ok (.getfield 29, 3) := by decide +kernel
theorem dX6_from_49 : decode cX6_from 49 = .ok (.bipush 30, 2) := by decide +kernel
theorem dX6_from_51 : decode cX6_from 51 = .ok (.if_icmp .ge 24, 3) := by decide +kernel
theorem dX6_from_54 : decode cX6_from 54 = .ok (.aload_n 0, 1) := by decide +kernel
theorem dX6_from_55 : decode cX6_from 55 = .ok (.getfield 9, 3) := by decide +kernel
theorem dX6_from_58 : decode cX6_from 58 = .ok (.aload_n 0, 1) := by decide +kernel
theorem dX6_from_59 : decode cX6_from 59 = .ok (.getfield 29, 3) := by decide +kernel
theorem dX6_from_62 : decode cX6_from 62 = .ok (.iload 6, 2) := by decide +kernel
theorem dX6_from_64 : decode cX6_from 64 = .ok (.iastore, 1) := by decide +kernel
theorem dX6_from_65 : decode cX6_from 65 = .ok (.aload_n 0, 1) := by decide +kernel
theorem dX6_from_66 : decode cX6_from 66 = .ok (.dup, 1) := by decide +kernel
theorem dX6_from_67 : decode cX6_from 67 = .ok (.getfield 29, 3) := by decide +kernel
theorem dX6_from_70 : decode cX6_from 70 = .ok (.iconst 1, 1) := by decide +kernel
theorem dX6_from_71 : decode cX6_from 71 = .ok (.iadd, 1) := by decide +kernel
theorem dX6_from_72 : decode cX6_from 72 = .ok (.putfield 29, 3) := by decide +kernel
