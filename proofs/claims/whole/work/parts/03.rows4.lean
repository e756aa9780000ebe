theorem dX9_then_0 : decode cX9_then 0 = .ok (.iload_n 1, 1) := by decide +kernel
theorem dX9_then_1 : decode cX9_then 1 = .ok (.invokestatic 175, 3) := by decide +kernel
theorem dX9_then_4 : decode cX9_then 4 = .ok (.ifCond .eq 13, 3) := by decide +kernel
theorem dX9_then_7 : decode cX9_then 7 = .ok (.iload_n 2, 1) := by decide +kernel
theorem dX9_then_8 : decode cX9_then 8 = .ok (.iconst 0, 1) := by decide +kernel
theorem dX9_then_9 : decode cX9_then 9 = .ok (.bipush 60, 2) := by decide +kernel
theorem dX9_then_11 : decode cX9_then 11 = .ok (.invokestatic 57, 3) := by decide +kernel
theorem dX9_then_14 : decode cX9_then 14 = .ok (.ifCond .ne 9, 3) := by decide +kernel
theorem dX9_then_17 : decode cX9_then 17 = .ok (.aload_n 0, 1) := by decide +kernel
theorem dX9_then_18 : decode cX9_then 18 = .ok (.iconst 1, 1) := by decide +kernel
theorem dX9_then_19 : decode cX9_then 19 = .ok (.invokevirtual 61, 3) := by decide +kernel
theorem dX9_then_22 : decode cX9_then 22 = .ok (.ireturn, 1) := by decide +kernel
theorem dX9_then_23 : decode cX9_then 23 = .ok (.aload_n 0, 1) := by decide +kernel
theorem dX9_then_24 : decode cX9_then 24 = .ok (.invokevirtual 185, 3) := by decide +kernel
theorem dX9_then_27 : decode cX9_then 27 = .ok (.aload_n 0, 1) := by decide +kernel
theorem dX9_then_28 : decode cX9_then 28 = .ok (.iload_n 2, 1) := by decide +kernel
theorem dX9_then_29 : decode cX9_then 29 = .ok (.invokevirtual 178, 3) := by decide +kernel
theorem dX9_then_32 : decode cX9_then 32 = .ok (.aload_n 0, 1) := by decide +kernel
theorem dX9_then_33 : decode cX9_then 33 = .ok (.getfield 7, 3) := by decide +kernel
theorem dX9_then_36 : decode cX9_then 36 = .ok (.iconst 2, 1) := by decide +kernel
theorem dX9_then_37 : decode cX9_then 37 = .ok (.iload_n 1, 1) := by decide +kernel
theorem dX9_then_38 : decode cX9_then 38 = .ok (.iadd, 1) := by decide +kernel
theorem dX9_then_39 : decode cX9_then 39 = .ok (.iaload, 1) := by decide +kernel
theorem dX9_then_40 : decode cX9_then 40 = .ok (.istore_n 3, 1) := by decide +kernel
theorem dX9_then_41 : decode cX9_then 41 = .ok (.aload_n 0, 1) := by decide +kernel
theorem dX9_then_42 : decode cX9_then 42 = .ok (.invokevirtual 188, 3) := by decide +kernel
theorem dX9_then_45 : decode cX9_then 45 = .ok (.iload_n 3, 1) := by decide +kernel
theorem dX9_then_46 : decode cX9_then 46 = .ok (.ireturn, 1) := by decide +kernel
set_option maxRecDepth 20000 in
theorem ggX9_marksThen_X9_isReader : GoodIn wsX9_marksThen wsX9_isReader := goodIn_r _ [5, 6, 7, 8, 4, 9, 84, 85, 86, 87, 88, 89, 90, 91, 92, 93, 94, 95, 96, 97, 98, 99, 100, 101, 102, 103, 104, 105, 106, 107, 108] (by decide +kernel) (by decide +kernel)
set_option maxRecDepth 20000 in
theorem gX9_marksThen_X9_isReader : GoodIn wsX9_marksThen (wsV RX9 163 RX9 yX9_isReader wsX9_isReader) := goodIn_app (goodIn_of _ (by decide +kernel)) ggX9_marksThen_X9_isReader
set_option maxRecDepth 20000 in
theorem ggX9_marksThen_X9_in : GoodIn wsX9_marksThen wsX9_in := goodIn_r _ [9] (by decide +kernel) (by decide +kernel)
set_option maxRecDepth 20000 in
theorem gX9_marksThen_X9_in : GoodIn wsX9_marksThen (va_wsS RX9 57 yX9_in wsX9_in) := goodIn_app (goodIn_of _ (by decide +kernel)) ggX9_marksThen_X9_in
set_option maxRecDepth 20000 in
theorem ggX9_marksThen_X9_error : GoodIn wsX9_marksThen wsX9_error := goodIn_r _ [13, 14, 15, 84, 85, 86, 87, 88, 89, 90, 91, 92, 93, 94, 95, 96, 97, 98, 99, 100, 101, 102, 103, 104, 105, 106, 107, 108] (by decide +kernel) (by decide +kernel)
set_option maxRecDepth 20000 in
theorem gX9_marksThen_X9_error : GoodIn wsX9_marksThen (wsV RX9 61 RX9 yX9_error wsX9_error) := goodIn_app (goodIn_of _ (by decide +kernel)) ggX9_marksThen_X9_error
set_option maxRecDepth 20000 in
theorem ggX9_marksThen_X9_saves : GoodIn wsX9_marksThen wsX9_saves := goodIn_r _ [19, 20, 6, 84, 85, 86, 87, 88, 89, 90, 91, 92, 93, 94, 95, 96, 97, 98, 99, 100, 101, 102, 103, 104, 105, 106, 107, 108] (by decide +kernel) (by decide +kernel)
set_option maxRecDepth 20000 in
theorem gX9_marksThen_X9_saves : GoodIn wsX9_marksThen (wsV RX9 185 RX9 yX9_saves wsX9_saves) := goodIn_app (goodIn_of _ (by decide +kernel)) ggX9_marksThen_X9_saves
set_option maxRecDepth 20000 in
theorem ggX9_marksThen_X9_goes : GoodIn wsX9_marksThen wsX9_goes := goodIn_r _ [24, 6, 25, 26, 27, 4, 28, 29, 30, 31, 32, 33, 34, 35, 36, 37, 38, 39, 40, 41, 42, 43, 44, 45, 46, 47, 48, 49, 50, 51, 52, 53, 54, 55, 56, 57, 58, 59, 60, 61, 62, 63, 64, 65, 66, 67, 68, 69, 70, 71, 72, 73, 74, 75, 76, 77, 78, 79, 84, 85, 86, 87, 88, 89, 90, 91, 92, 93, 94, 95, 96, 97, 98, 99, 100, 101, 102, 103, 104, 105, 106, 107, 108] (by decide +kernel) (by decide +kernel)
set_option maxRecDepth 20000 in
theorem gX9_marksThen_X9_goes : GoodIn wsX9_marksThen (wsV RX9 178 RX9 yX9_goes wsX9_goes) := goodIn_app (goodIn_of _ (by decide +kernel)) ggX9_marksThen_X9_goes
set_option maxRecDepth 20000 in
theorem ggX9_marksThen_X9_its : GoodIn wsX9_marksThen wsX9_its := goodIn_r _ [67, 6, 84, 85, 86, 87, 88, 89, 90, 91, 92, 93, 94, 95, 96, 97, 98, 99, 100, 101, 102, 103, 104, 105, 106, 107, 108] (by decide +kernel) (by decide +kernel)
set_option maxRecDepth 20000 in
theorem gX9_marksThen_X9_its : GoodIn wsX9_marksThen (wsV RX9 136 RX9 yX9_its wsX9_its) := goodIn_app (goodIn_of _ (by decide +kernel)) ggX9_marksThen_X9_its
set_option maxRecDepth 20000 in
theorem ggX9_marksThen_X9_putsBack : GoodIn wsX9_marksThen wsX9_putsBack := goodIn_r _ [83, 6, 20, 84, 85, 86, 87, 88, 89, 90, 91, 92, 93, 94, 95, 96, 97, 98, 99, 100, 101, 102, 103, 104, 105, 106, 107, 108] (by decide +kernel) (by decide +kernel)
set_option maxRecDepth 20000 in
theorem gX9_marksThen_X9_putsBack : GoodIn wsX9_marksThen (wsV RX9 188 RX9 yX9_putsBack wsX9_putsBack) := goodIn_app (goodIn_of _ (by decide +kernel)) ggX9_marksThen_X9_putsBack
theorem dX9_marksThen_0 : decode cX9_marksThen 0 = .ok (.aload_n 0, 1) := by decide +kernel
theorem dX9_marksThen_1 : decode cX9_marksThen 1 = .ok (.iload_n 1, 1) := by decide +kernel
theorem dX9_marksThen_2 : decode cX9_marksThen 2 = .ok (.invokevirtual 163, 3) := by decide +kernel
theorem dX9_marksThen_5 : decode cX9_marksThen 5 = .ok (.ifCond .eq 13, 3) := by decide +kernel
theorem dX9_marksThen_8 : decode cX9_marksThen 8 = .ok (.iload_n 2, 1) := by decide +kernel
theorem dX9_marksThen_9 : decode cX9_marksThen 9 = .ok (.iconst 0, 1) := by decide +kernel
theorem dX9_marksThen_10 : decode cX9_marksThen 10 = .ok (.bipush 60, 2) := by decide +kernel
theorem dX9_marksThen_12 : decode cX9_marksThen 12 = .ok (.invokestatic 57, 3) := by decide +kernel
theorem dX9_marksThen_15 : decode cX9_marksThen 15 = .ok (.ifCond .ne 9, 3) := by decide +kernel
theorem dX9_marksThen_18 : decode cX9_marksThen 18 = .ok (.aload_n 0, 1) := by decide +kernel
theorem dX9_marksThen_19 : decode cX9_marksThen 19 = .ok (.iconst 1, 1) := by decide +kernel
theorem dX9_marksThen_20 : decode cX9_marksThen 20 = .ok (.invokevirtual 61, 3) := by decide +kernel
theorem dX9_marksThen_23 : decode cX9_marksThen 23 = .ok (.ireturn, 1) := by decide +kernel
theorem dX9_marksThen_24 : decode cX9_marksThen 24 = .ok (.aload_n 0, 1) := by decide +kernel
theorem dX9_marksThen_25 : decode cX9_marksThen 25 = .ok (.invokevirtual 185, 3) := by decide +kernel
theorem dX9_marksThen_28 : decode cX9_marksThen 28 = .ok (.aload_n 0, 1) := by decide +kernel
theorem dX9_marksThen_29 : decode cX9_marksThen 29 = .ok (.iload_n 2, 1) := by decide +kernel
theorem dX9_marksThen_30 : decode cX9_marksThen 30 = .ok (.invokevirtual 178, 3) := by decide +kernel
theorem dX9_marksThen_33 : decode cX9_marksThen 33 = .ok (.aload_n 0, 1) := by decide +kernel
theorem dX9_marksThen_34 : decode cX9_marksThen 34 = .ok (.iload_n 1, 1) := by decide +kernel
theorem dX9_marksThen_35 : decode cX9_marksThen 35 = .ok (.iconst 2, 1) := by decide +kernel
theorem dX9_marksThen_36 : decode cX9_marksThen 36 = .ok (.invokevirtual 136, 3) := by decide +kernel
theorem dX9_marksThen_39 : decode cX9_marksThen 39 = .ok (.istore_n 3, 1) := by decide +kernel
theorem dX9_marksThen_40 : decode cX9_marksThen 40 = .ok (.aload_n 0, 1) := by decide +kernel
theorem dX9_marksThen_41 : decode cX9_marksThen 41 = .ok (.invokevirtual 188, 3) := by decide +kernel
theorem dX9_marksThen_44 : decode cX9_marksThen 44 = .ok (.iload_n 3, 1) := by decide +kernel
theorem dX9_marksThen_45 : decode cX9_marksThen 45 = .ok (.ireturn, 1) := by decide +kernel
set_option maxRecDepth 20000 in
theorem ggX9_laughs_X9_isLion : GoodIn wsX9_laughs wsX9_isLion := goodIn_r _ [5, 6, 7, 4, 8] (by decide +kernel) (by decide +kernel)
set_option maxRecDepth 20000 in
theorem gX9_laughs_X9_isLion : GoodIn wsX9_laughs (va_wsS RX9 175 yX9_isLion wsX9_isLion) := goodIn_app (goodIn_of _ (by decide +kernel)) ggX9_laughs_X9_isLion
set_option maxRecDepth 20000 in
theorem ggX9_laughs_X9_in : GoodIn wsX9_laughs wsX9_in := goodIn_r _ [8] (by decide +kernel) (by decide +kernel)
set_option maxRecDepth 20000 in
theorem gX9_laughs_X9_in : GoodIn wsX9_laughs (va_wsS RX9 57 yX9_in wsX9_in) := goodIn_app (goodIn_of _ (by decide +kernel)) ggX9_laughs_X9_in
set_option maxRecDepth 20000 in
theorem ggX9_laughs_X9_error : GoodIn wsX9_laughs wsX9_error := goodIn_r _ [12, 13, 14, 83, 84, 85, 86, 87, 88, 89, 90, 91, 92, 93, 94, 95, 96, 97, 98, 99, 100, 101, 102, 103, 104, 105, 106, 107] (by decide +kernel) (by decide +kernel)
set_option maxRecDepth 20000 in
theorem gX9_laughs_X9_error : GoodIn wsX9_laughs (wsV RX9 61 RX9 yX9_error wsX9_error) := goodIn_app (goodIn_of _ (by decide +kernel)) ggX9_laughs_X9_error
set_option maxRecDepth 20000 in
theorem ggX9_laughs_X9_saves : GoodIn wsX9_laughs wsX9_saves := goodIn_r _ [18, 19, 1, 83, 84, 85, 86, 87, 88, 89, 90, 91, 92, 93, 94, 95, 96, 97, 98, 99, 100, 101, 102, 103, 104, 105, 106, 107] (by decide +kernel) (by decide +kernel)
set_option maxRecDepth 20000 in
theorem gX9_laughs_X9_saves : GoodIn wsX9_laughs (wsV RX9 185 RX9 yX9_saves wsX9_saves) := goodIn_app (goodIn_of _ (by decide +kernel)) ggX9_laughs_X9_saves
set_option maxRecDepth 20000 in
theorem ggX9_laughs_X9_goes : GoodIn wsX9_laughs wsX9_goes := goodIn_r _ [23, 1, 24, 25, 26, 4, 27, 28, 29, 30, 31, 32, 33, 34, 35, 36, 37, 38, 39, 40, 41, 42, 43, 44, 45, 46, 47, 48, 49, 50, 51, 52, 53, 54, 55, 56, 57, 58, 59, 60, 61, 62, 63, 64, 65, 66, 67, 68, 69, 70, 71, 72, 73, 74, 75, 76, 77, 78, 83, 84, 85, 86, 87, 88, 89, 90, 91, 92, 93, 94, 95, 96, 97, 98, 99, 100, 101, 102, 103, 104, 105, 106, 107] (by decide +kernel) (by decide +kernel)
set_option maxRecDepth 20000 in
theorem gX9_laughs_X9_goes : GoodIn wsX9_laughs (wsV RX9 178 RX9 yX9_goes wsX9_goes) := goodIn_app (goodIn_of _ (by decide +kernel)) ggX9_laughs_X9_goes
set_option maxRecDepth 20000 in
theorem ggX9_laughs_X9_putsBack : GoodIn wsX9_laughs wsX9_putsBack := goodIn_r _ [82, 1, 19, 83, 84, 85, 86, 87, 88, 89, 90, 91, 92, 93, 94, 95, 96, 97, 98, 99, 100, 101, 102, 103, 104, 105, 106, 107] (by decide +kernel) (by decide +kernel)
set_option maxRecDepth 20000 in
theorem gX9_laughs_X9_putsBack : GoodIn wsX9_laughs (wsV RX9 188 RX9 yX9_putsBack wsX9_putsBack) := goodIn_app (goodIn_of _ (by decide +kernel)) ggX9_laughs_X9_putsBack
theorem dX9_laughs_0 : decode cX9_laughs 0 = .ok (.iload_n 1, 1) := by decide +kernel
theorem dX9_laughs_1 : decode cX9_laughs 1 = .ok (.invokestatic 175, 3) := by decide +kernel
theorem dX9_laughs_4 : decode cX9_laughs 4 = .ok (.ifCond .eq 14, 3) := by decide +kernel
theorem dX9_laughs_7 : decode cX9_laughs 7 = .ok (.iload_n 2, 1) := by decide +kernel
theorem dX9_laughs_8 : decode cX9_laughs 8 = .ok (.iconst 0, 1) := by decide +kernel
theorem dX9_laughs_9 : decode cX9_laughs 9 = .ok (.sipush 359, 3) := by decide +kernel
theorem dX9_laughs_12 : decode cX9_laughs 12 = .ok (.invokestatic 57, 3) := by decide +kernel
theorem dX9_laughs_15 : decode cX9_laughs 15 = .ok (.ifCond .ne 9, 3) := by decide +kernel
theorem dX9_laughs_18 : decode cX9_laughs 18 = .ok (.aload_n 0, 1) := by decide +kernel
theorem dX9_laughs_19 : decode cX9_laughs 19 = .ok (.iconst 1, 1) := by decide +kernel
theorem dX9_laughs_20 : decode cX9_laughs 20 = .ok (.invokevirtual 61, 3) := by decide +kernel
theorem dX9_laughs_23 : decode cX9_laughs 23 = .ok (.ireturn, 1) := by decide +kernel
theorem dX9_laughs_24 : decode cX9_laughs 24 = .ok (.aload_n 0, 1) := by decide +kernel
theorem dX9_laughs_25 : decode cX9_laughs 25 = .ok (.invokevirtual 185, 3) := by decide +kernel
theorem dX9_laughs_28 : decode cX9_laughs 28 = .ok (.iconst 0, 1) := by decide +kernel
theorem dX9_laughs_29 : decode cX9_laughs 29 = .ok (.istore_n 3, 1) := by decide +kernel
theorem dX9_laughs_30 : decode cX9_laughs 30 = .ok (.iload_n 3, 1) := by decide +kernel
theorem dX9_laughs_31 : decode cX9_laughs 31 = .ok (.bipush 60, 2) := by decide +kernel
theorem dX9_laughs_33 : decode cX9_laughs 33 = .ok (.if_icmp .gt 26, 3) := by decide +kernel
theorem dX9_laughs_36 : decode cX9_laughs 36 = .ok (.aload_n 0, 1) := by decide +kernel
theorem dX9_laughs_37 : decode cX9_laughs 37 = .ok (.getfield 7, 3) := by decide +kernel
theorem dX9_laughs_40 : decode cX9_laughs 40 = .ok (.iconst 2, 1) := by decide +kernel
theorem dX9_laughs_41 : decode cX9_laughs 41 = .ok (.iload_n 1, 1) := by decide +kernel
theorem dX9_laughs_42 : decode cX9_laughs 42 = .ok (.iadd, 1) := by decide +kernel
theorem dX9_laughs_43 : decode cX9_laughs 43 = .ok (.iaload, 1) := by decide +kernel
theorem dX9_laughs_44 : decode cX9_laughs 44 = .ok (.iload_n 2, 1) := by decide +kernel
theorem dX9_laughs_45 : decode cX9_laughs 45 = .ok (.if_icmp .ge 14, 3) := by decide +kernel
theorem dX9_laughs_48 : decode cX9_laughs 48 = .ok (.aload_n 0, 1) := by decide +kernel
theorem dX9_laughs_49 : decode cX9_laughs 49 = .ok (.iconst 1, 1) := by decide +kernel
theorem dX9_laughs_50 : decode cX9_laughs 50 = .ok (.invokevirtual 178, 3) := by decide +kernel
theorem dX9_laughs_53 : decode cX9_laughs 53 = .ok (.iinc 3 1, 3) := by decide +kernel
theorem dX9_laughs_56 : decode cX9_laughs 56 = .ok (.goto (-26), 3) := by decide +kernel
theorem dX9_laughs_59 : decode cX9_laughs 59 = .ok (.aload_n 0, 1) := by decide +kernel
theorem dX9_laughs_60 : decode cX9_laughs 60 = .ok (.invokevirtual 188, 3) := by decide +kernel
theorem dX9_laughs_63 : decode cX9_laughs 63 = .ok (.iload_n 3, 1) := by decide +kernel
theorem dX9_laughs_64 : decode cX9_laughs 64 = .ok (.bipush 60, 2) := by decide +kernel
theorem dX9_laughs_66 : decode cX9_laughs 66 = .ok (.if_icmp .le 11, 3) := by decide +kernel
theorem dX9_laughs_69 : decode cX9_laughs 69 = .ok (.aload_n 0, 1) := by decide +kernel
theorem dX9_laughs_70 : decode cX9_laughs 70 = .ok (.iconst 2, 1) := by decide +kernel
theorem dX9_laughs_71 : decode cX9_laughs 71 = .ok (.invokevirtual 61, 3) := by decide +kernel
theorem dX9_laughs_74 : decode cX9_laughs 74 = .ok (.goto 4, 3) := by decide +kernel
theorem dX9_laughs_77 : decode cX9_laughs 77 = .ok (.iload_n 3, 1) := by decide +kernel
theorem dX9_laughs_78 : decode cX9_laughs 78 = .ok (.ireturn, 1) := by decide +kernel
set_option maxRecDepth 20000 in
theorem ggX9_alike_X9_saves : GoodIn wsX9_alike wsX9_saves := goodIn_r _ [6, 7, 1, 77, 78, 79, 80, 81, 82, 83, 84, 85, 86, 87, 88, 89, 90, 91, 92, 93, 94, 95, 96, 97, 98, 99, 100, 101] (by decide +kernel) (by decide +kernel)
set_option maxRecDepth 20000 in
theorem gX9_alike_X9_saves : GoodIn wsX9_alike (wsV RX9 185 RX9 yX9_saves wsX9_saves) := goodIn_app (goodIn_of _ (by decide +kernel)) ggX9_alike_X9_saves
set_option maxRecDepth 20000 in
theorem ggX9_alike_X9_goes : GoodIn wsX9_alike wsX9_goes := goodIn_r _ [11, 1, 12, 13, 14, 5, 15, 16, 17, 18, 19, 20, 21, 22, 23, 24, 25, 26, 27, 28, 29, 30, 31, 32, 33, 34, 35, 36, 37, 38, 39, 40, 41, 42, 43, 44, 45, 46, 47, 48, 49, 50, 51, 52, 53, 54, 55, 56, 57, 58, 59, 60, 61, 62, 63, 64, 65, 66, 77, 78, 79, 80, 81, 82, 83, 84, 85, 86, 87, 88, 89, 90, 91, 92, 93, 94, 95, 96, 97, 98, 99, 100, 101] (by decide +kernel) (by decide +kernel)
set_option maxRecDepth 20000 in
theorem gX9_alike_X9_goes : GoodIn wsX9_alike (wsV RX9 178 RX9 yX9_goes wsX9_goes) := goodIn_app (goodIn_of _ (by decide +kernel)) ggX9_alike_X9_goes
set_option maxRecDepth 20000 in
theorem ggX9_alike_X9_putsBack : GoodIn wsX9_alike wsX9_putsBack := goodIn_r _ [70, 1, 7, 77, 78, 79, 80, 81, 82, 83, 84, 85, 86, 87, 88, 89, 90, 91, 92, 93, 94, 95, 96, 97, 98, 99, 100, 101] (by decide +kernel) (by decide +kernel)
set_option maxRecDepth 20000 in
theorem gX9_alike_X9_putsBack : GoodIn wsX9_alike (wsV RX9 188 RX9 yX9_putsBack wsX9_putsBack) := goodIn_app (goodIn_of _ (by decide +kernel)) ggX9_alike_X9_putsBack
set_option maxRecDepth 20000 in
theorem ggX9_alike_X9_error : GoodIn wsX9_alike wsX9_error := goodIn_r _ [74, 75, 76, 77, 78, 79, 80, 81, 82, 83, 84, 85, 86, 87, 88, 89, 90, 91, 92, 93, 94, 95, 96, 97, 98, 99, 100, 101] (by decide +kernel) (by decide +kernel)
set_option maxRecDepth 20000 in
theorem gX9_alike_X9_error : GoodIn wsX9_alike (wsV RX9 61 RX9 yX9_error wsX9_error) := goodIn_app (goodIn_of _ (by decide +kernel)) ggX9_alike_X9_error
theorem dX9_alike_0 : decode cX9_alike 0 = .ok (.aload_n 0, 1) := by decide +kernel
theorem dX9_alike_1 : decode cX9_alike 1 = .ok (.invokevirtual 185, 3) := by decide +kernel
theorem dX9_alike_4 : decode cX9_alike 4 = .ok (.iconst 0, 1) := by decide +kernel
theorem dX9_alike_5 : decode cX9_alike 5 = .ok (.istore_n 1, 1) := by decide +kernel
theorem dX9_alike_6 : decode cX9_alike 6 = .ok (.iload_n 1, 1) := by decide +kernel
theorem dX9_alike_7 : decode cX9_alike 7 = .ok (.bipush 60, 2) := by decide +kernel
theorem dX9_alike_9 : decode cX9_alike 9 = .ok (.if_icmp .gt 29, 3) := by decide +kernel
theorem dX9_alike_12 : decode cX9_alike 12 = .ok (.aload_n 0, 1) := by decide +kernel
theorem dX9_alike_13 : decode cX9_alike 13 = .ok (.getfield 7, 3) := by decide +kernel
theorem dX9_alike_16 : decode cX9_alike 16 = .ok (.iconst 2, 1) := by decide +kernel
theorem dX9_alike_17 : decode cX9_alike 17 = .ok (.iaload, 1) := by decide +kernel
theorem dX9_alike_18 : decode cX9_alike 18 = .ok (.aload_n 0, 1) := by decide +kernel
theorem dX9_alike_19 : decode cX9_alike 19 = .ok (.getfield 7, 3) := by decide +kernel
theorem dX9_alike_22 : decode cX9_alike 22 = .ok (.iconst 3, 1) := by decide +kernel
theorem dX9_alike_23 : decode cX9_alike 23 = .ok (.iaload, 1) := by decide +kernel
theorem dX9_alike_24 : decode cX9_alike 24 = .ok (.if_icmp .eq 14, 3) := by decide +kernel
theorem dX9_alike_27 : decode cX9_alike 27 = .ok (.aload_n 0, 1) := by decide +kernel
theorem dX9_alike_28 : decode cX9_alike 28 = .ok (.iconst 1, 1) := by decide +kernel
theorem dX9_alike_29 : decode cX9_alike 29 = .ok (.invokevirtual 178, 3) := by decide +kernel
theorem dX9_alike_32 : decode cX9_alike 32 = .ok (.iinc 1 1, 3) := by decide +kernel
theorem dX9_alike_35 : decode cX9_alike 35 = .ok (.goto (-29), 3) := by decide +kernel
theorem dX9_alike_38 : decode cX9_alike 38 = .ok (.aload_n 0, 1) := by decide +kernel
theorem dX9_alike_39 : decode cX9_alike 39 = .ok (.invokevirtual 188, 3) := by decide +kernel
theorem dX9_alike_42 : decode cX9_alike 42 = .ok (.iload_n 1, 1) := by decide +kernel
theorem dX9_alike_43 : decode cX9_alike 43 = .ok (.bipush 60, 2) := by decide +kernel
theorem dX9_alike_45 : decode cX9_alike 45 = .ok (.if_icmp .le 11, 3) := by decide +kernel
theorem dX9_alike_48 : decode cX9_alike 48 = .ok (.aload_n 0, 1) := by decide +kernel
theorem dX9_alike_49 : decode cX9_alike 49 = .ok (.iconst 2, 1) := by decide +kernel
theorem dX9_alike_50 : decode cX9_alike 50 = .ok (.invokevirtual 61, 3) := by decide +kernel
theorem dX9_alike_53 : decode cX9_alike 53 = .ok (.goto 4, 3) := by decide +kernel
theorem dX9_alike_56 : decode cX9_alike 56 = .ok (.iload_n 1, 1) := by decide +kernel
theorem dX9_alike_57 : decode cX9_alike 57 = .ok (.ireturn, 1) := by decide +kernel
set_option maxRecDepth 20000 in
theorem ggX9_isSecret_X9_signsOf : GoodIn wsX9_isSecret wsX9_signsOf := goodIn_r _ [8, 9, 10, 7, 11] (by decide +kernel) (by decide +kernel)
set_option maxRecDepth 20000 in
theorem gX9_isSecret_X9_signsOf : GoodIn wsX9_isSecret (wsV RX9 130 RX9 yX9_signsOf wsX9_signsOf) := goodIn_app (goodIn_of _ (by decide +kernel)) ggX9_isSecret_X9_signsOf
set_option maxRecDepth 20000 in
theorem ggX9_isSecret_X9_turnBy : GoodIn wsX9_isSecret wsX9_turnBy := goodIn_r _ [15, 16, 17, 18, 19, 7, 20, 1, 21, 22, 23, 24, 25, 26, 27, 28, 29, 30, 31, 32, 33, 34, 35, 36, 37, 38, 39, 40, 41, 42, 43, 44, 45, 46, 47, 48, 49, 50, 51, 52, 53, 54, 55, 56] (by decide +kernel) (by decide +kernel)
set_option maxRecDepth 20000 in
theorem gX9_isSecret_X9_turnBy : GoodIn wsX9_isSecret (wsV RX9 133 RX9 yX9_turnBy wsX9_turnBy) := goodIn_app (goodIn_of _ (by decide +kernel)) ggX9_isSecret_X9_turnBy
theorem dX9_isSecret_0 : decode cX9_isSecret 0 = .ok (.aload_n 0, 1) := by decide +kernel
theorem dX9_isSecret_1 : decode cX9_isSecret 1 = .ok (.getfield 7, 3) := by decide +kernel
theorem dX9_isSecret_4 : decode cX9_isSecret 4 = .ok (.iconst 2, 1) := by decide +kernel
theorem dX9_isSecret_5 : decode cX9_isSecret 5 = .ok (.iload_n 2, 1) := by decide +kernel
theorem dX9_isSecret_6 : decode cX9_isSecret 6 = .ok (.iadd, 1) := by decide +kernel
theorem dX9_isSecret_7 : decode cX9_isSecret 7 = .ok (.iaload, 1) := by decide +kernel
theorem dX9_isSecret_8 : decode cX9_isSecret 8 = .ok (.istore 4, 2) := by decide +kernel
theorem dX9_isSecret_10 : decode cX9_isSecret 10 = .ok (.iconst 0, 1) := by decide +kernel
theorem dX9_isSecret_11 : decode cX9_isSecret 11 = .ok (.istore 5, 2) := by decide +kernel
theorem dX9_isSecret_13 : decode cX9_isSecret 13 = .ok (.iload 5, 2) := by decide +kernel
theorem dX9_isSecret_15 : decode cX9_isSecret 15 = .ok (.aload_n 0, 1) := by decide +kernel
theorem dX9_isSecret_16 : decode cX9_isSecret 16 = .ok (.getfield 47, 3) := by decide +kernel
theorem dX9_isSecret_19 : decode cX9_isSecret 19 = .ok (.iload_n 1, 1) := by decide +kernel
theorem dX9_isSecret_20 : decode cX9_isSecret 20 = .ok (.iaload, 1) := by decide +kernel
theorem dX9_isSecret_21 : decode cX9_isSecret 21 = .ok (.if_icmp .ge 82, 3) := by decide +kernel
theorem dX9_isSecret_24 : decode cX9_isSecret 24 = .ok (.aload_n 0, 1) := by decide +kernel
theorem dX9_isSecret_25 : decode cX9_isSecret 25 = .ok (.getfield 50, 3) := by decide +kernel
theorem dX9_isSecret_28 : decode cX9_isSecret 28 = .ok (.bipush 24, 2) := by decide +kernel
theorem dX9_isSecret_30 : decode cX9_isSecret 30 = .ok (.iload_n 1, 1) := by decide +kernel
theorem dX9_isSecret_31 : decode cX9_isSecret 31 = .ok (.imul, 1) := by decide +kernel
theorem dX9_isSecret_32 : decode cX9_isSecret 32 = .ok (.iload 5, 2) := by decide +kernel
theorem dX9_isSecret_34 : decode cX9_isSecret 34 = .ok (.iadd, 1) := by decide +kernel
theorem dX9_isSecret_35 : decode cX9_isSecret 35 = .ok (.iaload, 1) := by decide +kernel
theorem dX9_isSecret_36 : decode cX9_isSecret 36 = .ok (.iload 4, 2) := by decide +kernel
theorem dX9_isSecret_38 : decode cX9_isSecret 38 = .ok (.if_icmp .eq 5, 3) := by decide +kernel
theorem dX9_isSecret_41 : decode cX9_isSecret 41 = .ok (.iconst 0, 1) := by decide +kernel
theorem dX9_isSecret_42 : decode cX9_isSecret 42 = .ok (.ireturn, 1) := by decide +kernel
theorem dX9_isSecret_43 : decode cX9_isSecret 43 = .ok (.aload_n 0, 1) := by decide +kernel
theorem dX9_isSecret_44 : decode cX9_isSecret 44 = .ok (.getfield 7, 3) := by decide +kernel
theorem dX9_isSecret_47 : decode cX9_isSecret 47 = .ok (.bipush 8, 2) := by decide +kernel
theorem dX9_isSecret_49 : decode cX9_isSecret 49 = .ok (.aload_n 0, 1) := by decide +kernel
theorem dX9_isSecret_50 : decode cX9_isSecret 50 = .ok (.getfield 7, 3) := by decide +kernel
theorem dX9_isSecret_53 : decode cX9_isSecret 53 = .ok (.iconst 0, 1) := by decide +kernel
theorem dX9_isSecret_54 : decode cX9_isSecret 54 = .ok (.iaload, 1) := by decide +kernel
theorem dX9_isSecret_55 : decode cX9_isSecret 55 = .ok (.iload 5, 2) := by decide +kernel
theorem dX9_isSecret_57 : decode cX9_isSecret 57 = .ok (.iadd, 1) := by decide +kernel
theorem dX9_isSecret_58 : decode cX9_isSecret 58 = .ok (.bipush 6, 2) := by decide +kernel
theorem dX9_isSecret_60 : decode cX9_isSecret 60 = .ok (.irem, 1) := by decide +kernel
theorem dX9_isSecret_61 : decode cX9_isSecret 61 = .ok (.iadd, 1) := by decide +kernel
theorem dX9_isSecret_62 : decode cX9_isSecret 62 = .ok (.iaload, 1) := by decide +kernel
theorem dX9_isSecret_63 : decode cX9_isSecret 63 = .ok (.istore 6, 2) := by decide +kernel
theorem dX9_isSecret_65 : decode cX9_isSecret 65 = .ok (.iload 4, 2) := by decide +kernel
theorem dX9_isSecret_67 : decode cX9_isSecret 67 = .ok (.aload_n 0, 1) := by decide +kernel
theorem dX9_isSecret_68 : decode cX9_isSecret 68 = .ok (.aload_n 0, 1) := by decide +kernel
theorem dX9_isSecret_69 : decode cX9_isSecret 69 = .ok (.iload_n 2, 1) := by decide +kernel
theorem dX9_isSecret_70 : decode cX9_isSecret 70 = .ok (.iload 6, 2) := by decide +kernel
theorem dX9_isSecret_72 : decode cX9_isSecret 72 = .ok (.iload_n 3, 1) := by decide +kernel
theorem dX9_isSecret_73 : decode cX9_isSecret 73 = .ok (.invokevirtual 130, 3) := by decide +kernel
theorem dX9_isSecret_76 : decode cX9_isSecret 76 = .ok (.iload 6, 2) := by decide +kernel
theorem dX9_isSecret_78 : decode cX9_isSecret 78 = .ok (.aload_n 0, 1) := by decide +kernel
theorem dX9_isSecret_79 : decode cX9_isSecret 79 = .ok (.getfield 7, 3) := by decide +kernel
theorem dX9_isSecret_82 : decode cX9_isSecret 82 = .ok (.iconst 0, 1) := by decide +kernel
theorem dX9_isSecret_83 : decode cX9_isSecret 83 = .ok (.iaload, 1) := by decide +kernel
theorem dX9_isSecret_84 : decode cX9_isSecret 84 = .ok (.iload 5, 2) := by decide +kernel
theorem dX9_isSecret_86 : decode cX9_isSecret 86 = .ok (.iadd, 1) := by decide +kernel
theorem dX9_isSecret_87 : decode cX9_isSecret 87 = .ok (.invokevirtual 133, 3) := by decide +kernel
theorem dX9_isSecret_90 : decode cX9_isSecret 90 = .ok (.iadd, 1) := by decide +kernel
theorem dX9_isSecret_91 : decode cX9_isSecret 91 = .ok (.sipush 360, 3) := by decide +kernel
theorem dX9_isSecret_94 : decode cX9_isSecret 94 = .ok (.irem, 1) := by decide +kernel
theorem dX9_isSecret_95 : decode cX9_isSecret 95 = .ok (.istore 4, 2) := by decide +kernel
theorem dX9_isSecret_97 : decode cX9_isSecret 97 = .ok (.iinc 5 1, 3) := by decide +kernel
theorem dX9_isSecret_100 : decode cX9_isSecret 100 = .ok (.goto (-87), 3) := by decide +kernel
theorem dX9_isSecret_103 : decode cX9_isSecret 103 = .ok (.iconst 1, 1) := by decide +kernel
theorem dX9_isSecret_104 : decode cX9_isSecret 104 = .ok (.ireturn, 1) := by decide +kernel
set_option maxRecDepth 20000 in
theorem ggX9_findsFits_X9_isSecret : GoodIn wsX9_findsFits wsX9_isSecret := goodIn_r _ [8, 9, 10, 11, 12, 13, 14, 7, 15, 16, 17, 18, 19, 20, 21, 22, 23, 24, 25, 26, 27, 28, 29, 30, 31, 32, 33, 34, 35, 36, 37, 38, 39, 40, 41, 42, 43, 44, 45, 46, 47, 48, 49, 50, 51, 52, 53, 54, 55, 56, 57, 58, 59, 60, 61, 62, 63] (by decide +kernel) (by decide +kernel)
set_option maxRecDepth 20000 in
theorem gX9_findsFits_X9_isSecret : GoodIn wsX9_findsFits (wsV RX9 197 RX9 yX9_isSecret wsX9_isSecret) := goodIn_app (goodIn_of _ (by decide +kernel)) ggX9_findsFits_X9_isSecret
theorem dX9_findsFits_0 : decode cX9_findsFits 0 = .ok (.aload_n 0, 1) := by decide +kernel
theorem dX9_findsFits_1 : decode cX9_findsFits 1 = .ok (.iconst 0, 1) := by decide +kernel
theorem dX9_findsFits_2 : decode cX9_findsFits 2 = .ok (.putfield 191, 3) := by decide +kernel
theorem dX9_findsFits_5 : decode cX9_findsFits 5 = .ok (.aload_n 0, 1) := by decide +kernel
theorem dX9_findsFits_6 : decode cX9_findsFits 6 = .ok (.iconst (-1), 1) := by decide +kernel
theorem dX9_findsFits_7 : decode cX9_findsFits 7 = .ok (.putfield 194, 3) := by decide +kernel
theorem dX9_findsFits_10 : decode cX9_findsFits 10 = .ok (.sipush 255, 3) := by decide +kernel
theorem dX9_findsFits_13 : decode cX9_findsFits 13 = .ok (.istore_n 3, 1) := by decide +kernel
theorem dX9_findsFits_14 : decode cX9_findsFits 14 = .ok (.iload_n 3, 1) := by decide +kernel
theorem dX9_findsFits_15 : decode cX9_findsFits 15 = .ok (.ifCond .lt 66, 3) := by decide +kernel
theorem dX9_findsFits_18 : decode cX9_findsFits 18 = .ok (.aload_n 0, 1) := by decide +kernel
theorem dX9_findsFits_19 : decode cX9_findsFits 19 = .ok (.getfield 31, 3) := by decide +kernel
theorem dX9_findsFits_22 : decode cX9_findsFits 22 = .ok (.iload_n 3, 1) := by decide +kernel
theorem dX9_findsFits_23 : decode cX9_findsFits 23 = .ok (.aload_n 0, 1) := by decide +kernel
theorem dX9_findsFits_24 : decode cX9_findsFits 24 = .ok (.iload_n 1, 1) := by decide +kernel
theorem dX9_findsFits_25 : decode cX9_findsFits 25 = .ok (.iload_n 2, 1) := by decide +kernel
theorem dX9_findsFits_26 : decode cX9_findsFits 26 = .ok (.iload_n 3, 1) := by decide +kernel
theorem dX9_findsFits_27 : decode cX9_findsFits 27 = .ok (.invokevirtual 197, 3) := by decide +kernel
theorem dX9_findsFits_30 : decode cX9_findsFits 30 = .ok (.bastore, 1) := by decide +kernel
theorem dX9_findsFits_31 : decode cX9_findsFits 31 = .ok (.aload_n 0, 1) := by decide +kernel
theorem dX9_findsFits_32 : decode cX9_findsFits 32 = .ok (.dup, 1) := by decide +kernel
theorem dX9_findsFits_33 : decode cX9_findsFits 33 = .ok (.getfield 191, 3) := by decide +kernel
theorem dX9_findsFits_36 : decode cX9_findsFits 36 = .ok (.aload_n 0, 1) := by decide +kernel
theorem dX9_findsFits_37 : decode cX9_findsFits 37 = .ok (.getfield 31, 3) := by decide +kernel
theorem dX9_findsFits_40 : decode cX9_findsFits 40 = .ok (.iload_n 3, 1) := by decide +kernel
theorem dX9_findsFits_41 : decode cX9_findsFits 41 = .ok (.baload, 1) := by decide +kernel
theorem dX9_findsFits_42 : decode cX9_findsFits 42 = .ok (.ifCond .eq 7, 3) := by decide +kernel
theorem dX9_findsFits_45 : decode cX9_findsFits 45 = .ok (.iconst 1, 1) := by decide +kernel
theorem dX9_findsFits_46 : decode cX9_findsFits 46 = .ok (.goto 4, 3) := by decide +kernel
theorem dX9_findsFits_49 : decode cX9_findsFits 49 = .ok (.iconst 0, 1) := by decide +kernel
theorem dX9_findsFits_50 : decode cX9_findsFits 50 = .ok (.iadd, 1) := by decide +kernel
theorem dX9_findsFits_51 : decode cX9_findsFits 51 = .ok (.putfield 191, 3) := by decide +kernel
theorem dX9_findsFits_54 : decode cX9_findsFits 54 = .ok (.aload_n 0, 1) := by decide +kernel
theorem dX9_findsFits_55 : decode cX9_findsFits 55 = .ok (.aload_n 0, 1) := by decide +kernel
theorem dX9_findsFits_56 : decode cX9_findsFits 56 = .ok (.getfield 31, 3) := by decide +kernel
theorem dX9_findsFits_59 : decode cX9_findsFits 59 = .ok (.iload_n 3, 1) := by decide +kernel
theorem dX9_findsFits_60 : decode cX9_findsFits 60 = .ok (.baload, 1) := by decide +kernel
theorem dX9_findsFits_61 : decode cX9_findsFits 61 = .ok (.ifCond .eq 7, 3) := by decide +kernel
theorem dX9_findsFits_64 : decode cX9_findsFits 64 = .ok (.iload_n 3, 1) := by decide +kernel
theorem dX9_findsFits_65 : decode cX9_findsFits 65 = .ok (.goto 7, 3) := by decide +kernel
theorem dX9_findsFits_68 : decode cX9_findsFits 68 = .ok (.aload_n 0, 1) := by decide +kernel
theorem dX9_findsFits_69 : decode cX9_findsFits 69 = .ok (.getfield 194, 3) := by decide +kernel
theorem dX9_findsFits_72 : decode cX9_findsFits 72 = .ok (.putfield 194, 3) := by decide +kernel
theorem dX9_findsFits_75 : decode cX9_findsFits 75 = .ok (.iinc 3 (-1), 3) := by decide +kernel
theorem dX9_findsFits_78 : decode cX9_findsFits 78 = .ok (.goto (-64), 3) := by decide +kernel
theorem dX9_findsFits_81 : decode cX9_findsFits 81 = .ok (.return_, 1) := by decide +kernel
set_option maxRecDepth 20000 in
theorem ggX9_fits_X9_isSheet : GoodIn wsX9_fits wsX9_isSheet := goodIn_r _ [7, 8, 9, 6, 10] (by decide +kernel) (by decide +kernel)
set_option maxRecDepth 20000 in
theorem gX9_fits_X9_isSheet : GoodIn wsX9_fits (va_wsS RX9 200 yX9_isSheet wsX9_isSheet) := goodIn_app (goodIn_of _ (by decide +kernel)) ggX9_fits_X9_isSheet
set_option maxRecDepth 20000 in
theorem ggX9_fits_X9_isLion : GoodIn wsX9_fits wsX9_isLion := goodIn_r _ [13, 8, 9, 6, 10] (by decide +kernel) (by decide +kernel)
set_option maxRecDepth 20000 in
theorem gX9_fits_X9_isLion : GoodIn wsX9_fits (va_wsS RX9 175 yX9_isLion wsX9_isLion) := goodIn_app (goodIn_of _ (by decide +kernel)) ggX9_fits_X9_isLion
set_option maxRecDepth 20000 in
theorem ggX9_fits_X9_in : GoodIn wsX9_fits wsX9_in := goodIn_r _ [10] (by decide +kernel) (by decide +kernel)
set_option maxRecDepth 20000 in
theorem gX9_fits_X9_in : GoodIn wsX9_fits (va_wsS RX9 57 yX9_in wsX9_in) := goodIn_app (goodIn_of _ (by decide +kernel)) ggX9_fits_X9_in
set_option maxRecDepth 20000 in
theorem ggX9_fits_X9_error : GoodIn wsX9_fits wsX9_error := goodIn_r _ [17, 18, 19, 59, 60, 61, 62, 63, 64, 65, 66, 67, 68, 69, 70, 71, 72, 73, 74, 75, 76, 77, 78, 79, 80, 81, 82, 83] (by decide +kernel) (by decide +kernel)
set_option maxRecDepth 20000 in
theorem gX9_fits_X9_error : GoodIn wsX9_fits (wsV RX9 61 RX9 yX9_error wsX9_error) := goodIn_app (goodIn_of _ (by decide +kernel)) ggX9_fits_X9_error
set_option maxRecDepth 20000 in
theorem ggX9_fits_X9_findsFits : GoodIn wsX9_fits wsX9_findsFits := goodIn_r _ [23, 2, 3, 24, 25, 26, 27, 6, 28, 29, 30, 31, 32, 33, 34, 35, 36, 37, 38, 39, 40, 41, 42, 43, 44, 45, 46, 47, 48, 49, 50, 51, 52, 53, 54, 55, 56, 57, 58, 59, 60, 61, 62, 63, 64, 65, 66, 67, 68, 69, 70, 71, 72, 73, 74, 75, 76, 77, 78, 79, 80, 81, 82, 83] (by decide +kernel) (by decide +kernel)
set_option maxRecDepth 20000 in
theorem gX9_fits_X9_findsFits : GoodIn wsX9_fits (wsV RX9 203 RX9 yX9_findsFits wsX9_findsFits) := goodIn_app (goodIn_of _ (by decide +kernel)) ggX9_fits_X9_findsFits
theorem dX9_fits_0 : decode cX9_fits 0 = .ok (.iload_n 1, 1) := by decide +kernel
theorem dX9_fits_1 : decode cX9_fits 1 = .ok (.invokestatic 200, 3) := by decide +kernel
theorem dX9_fits_4 : decode cX9_fits 4 = .ok (.ifCond .eq 19, 3) := by decide +kernel
theorem dX9_fits_7 : decode cX9_fits 7 = .ok (.iload_n 2, 1) := by decide +kernel
theorem dX9_fits_8 : decode cX9_fits 8 = .ok (.invokestatic 175, 3) := by decide +kernel
theorem dX9_fits_11 : decode cX9_fits 11 = .ok (.ifCond .eq 12, 3) := by decide +kernel
theorem dX9_fits_14 : decode cX9_fits 14 = .ok (.iload_n 3, 1) := by decide +kernel
theorem dX9_fits_15 : decode cX9_fits 15 = .ok (.iconst 0, 1) := by decide +kernel
theorem dX9_fits_16 : decode cX9_fits 16 = .ok (.iconst 1, 1) := by decide +kernel
theorem dX9_fits_17 : decode cX9_fits 17 = .ok (.invokestatic 57, 3) := by decide +kernel
theorem dX9_fits_20 : decode cX9_fits 20 = .ok (.ifCond .ne 9, 3) := by decide +kernel
theorem dX9_fits_23 : decode cX9_fits 23 = .ok (.aload_n 0, 1) := by decide +kernel
theorem dX9_fits_24 : decode cX9_fits 24 = .ok (.iconst 1, 1) := by decide +kernel
theorem dX9_fits_25 : decode cX9_fits 25 = .ok (.invokevirtual 61, 3) := by decide +kernel
theorem dX9_fits_28 : decode cX9_fits 28 = .ok (.ireturn, 1) := by decide +kernel
theorem dX9_fits_29 : decode cX9_fits 29 = .ok (.aload_n 0, 1) := by decide +kernel
theorem dX9_fits_30 : decode cX9_fits 30 = .ok (.getfield 44, 3) := by decide +kernel
theorem dX9_fits_33 : decode cX9_fits 33 = .ok (.iload_n 1, 1) := by decide +kernel
theorem dX9_fits_34 : decode cX9_fits 34 = .ok (.iaload, 1) := by decide +kernel
theorem dX9_fits_35 : decode cX9_fits 35 = .ok (.ifCond .ne 9, 3) := by decide +kernel
theorem dX9_fits_38 : decode cX9_fits 38 = .ok (.aload_n 0, 1) := by decide +kernel
theorem dX9_fits_39 : decode cX9_fits 39 = .ok (.iconst 2, 1) := by decide +kernel
theorem dX9_fits_40 : decode cX9_fits 40 = .ok (.invokevirtual 61, 3) := by decide +kernel
theorem dX9_fits_43 : decode cX9_fits 43 = .ok (.ireturn, 1) := by decide +kernel
theorem dX9_fits_44 : decode cX9_fits 44 = .ok (.aload_n 0, 1) := by decide +kernel
theorem dX9_fits_45 : decode cX9_fits 45 = .ok (.iload_n 1, 1) := by decide +kernel
theorem dX9_fits_46 : decode cX9_fits 46 = .ok (.iload_n 2, 1) := by decide +kernel
theorem dX9_fits_47 : decode cX9_fits 47 = .ok (.invokevirtual 203, 3) := by decide +kernel
theorem dX9_fits_50 : decode cX9_fits 50 = .ok (.iload_n 3, 1) := by decide +kernel
theorem dX9_fits_51 : decode cX9_fits 51 = .ok (.ifCond .ne 10, 3) := by decide +kernel
theorem dX9_fits_54 : decode cX9_fits 54 = .ok (.aload_n 0, 1) := by decide +kernel
theorem dX9_fits_55 : decode cX9_fits 55 = .ok (.getfield 191, 3) := by decide +kernel
theorem dX9_fits_58 : decode cX9_fits 58 = .ok (.goto 22, 3) := by decide +kernel
theorem dX9_fits_61 : decode cX9_fits 61 = .ok (.aload_n 0, 1) := by decide +kernel
theorem dX9_fits_62 : decode cX9_fits 62 = .ok (.getfield 191, 3) := by decide +kernel
theorem dX9_fits_65 : decode cX9_fits 65 = .ok (.ifCond .ne 11, 3) := by decide +kernel
theorem dX9_fits_68 : decode cX9_fits 68 = .ok (.aload_n 0, 1) := by decide +kernel
theorem dX9_fits_69 : decode cX9_fits 69 = .ok (.iconst 2, 1) := by decide +kernel
theorem dX9_fits_70 : decode cX9_fits 70 = .ok (.invokevirtual 61, 3) := by decide +kernel
theorem dX9_fits_73 : decode cX9_fits 73 = .ok (.goto 7, 3) := by decide +kernel
theorem dX9_fits_76 : decode cX9_fits 76 = .ok (.aload_n 0, 1) := by decide +kernel
theorem dX9_fits_77 : decode cX9_fits 77 = .ok (.getfield 194, 3) := by decide +kernel
theorem dX9_fits_80 : decode cX9_fits 80 = .ok (.ireturn, 1) := by decide +kernel
set_option maxRecDepth 20000 in
theorem ggX9_mostAlike_X9_turnBy : GoodIn wsX9_mostAlike wsX9_turnBy := goodIn_r _ [9, 10, 11, 12, 13, 8, 14, 2, 15, 16, 17, 18, 19, 20, 21, 22, 23, 24, 25, 33, 34, 35, 36, 37, 38, 39, 40, 41, 42, 43, 44, 45, 46, 47, 48, 49, 50, 51, 52, 53, 54, 55, 56, 57] (by decide +kernel) (by decide +kernel)
set_option maxRecDepth 20000 in
theorem gX9_mostAlike_X9_turnBy : GoodIn wsX9_mostAlike (wsV RX9 133 RX9 yX9_turnBy wsX9_turnBy) := goodIn_app (goodIn_of _ (by decide +kernel)) ggX9_mostAlike_X9_turnBy
set_option maxRecDepth 20000 in
theorem ggX9_mostAlike_X9_signsOf : GoodIn wsX9_mostAlike wsX9_signsOf := goodIn_r _ [29, 30, 31, 8, 32] (by decide +kernel) (by decide +kernel)
set_option maxRecDepth 20000 in
theorem gX9_mostAlike_X9_signsOf : GoodIn wsX9_mostAlike (wsV RX9 130 RX9 yX9_signsOf wsX9_signsOf) := goodIn_app (goodIn_of _ (by decide +kernel)) ggX9_mostAlike_X9_signsOf
theorem dX9_mostAlike_0 : decode cX9_mostAlike 0 = .ok (.iconst 0, 1) := by decide +kernel
theorem dX9_mostAlike_1 : decode cX9_mostAlike 1 = .ok (.istore_n 3, 1) := by decide +kernel
theorem dX9_mostAlike_2 : decode cX9_mostAlike 2 = .ok (.iload_n 3, 1) := by decide +kernel
theorem dX9_mostAlike_3 : decode cX9_mostAlike 3 = .ok (.bipush 9, 2) := by decide +kernel
theorem dX9_mostAlike_5 : decode cX9_mostAlike 5 = .ok (.if_icmp .ge 27, 3) := by decide +kernel
theorem dX9_mostAlike_8 : decode cX9_mostAlike 8 = .ok (.aload_n 0, 1) := by decide +kernel
theorem dX9_mostAlike_9 : decode cX9_mostAlike 9 = .ok (.getfield 35, 3) := by decide +kernel
theorem dX9_mostAlike_12 : decode cX9_mostAlike 12 = .ok (.iload_n 3, 1) := by decide +kernel
theorem dX9_mostAlike_13 : decode cX9_mostAlike 13 = .ok (.aload_n 0, 1) := by decide +kernel
theorem dX9_mostAlike_14 : decode cX9_mostAlike 14 = .ok (.iload_n 3, 1) := by decide +kernel
theorem dX9_mostAlike_15 : decode cX9_mostAlike 15 = .ok (.iload_n 2, 1) := by decide +kernel
theorem dX9_mostAlike_16 : decode cX9_mostAlike 16 = .ok (.aload_n 0, 1) := by decide +kernel
theorem dX9_mostAlike_17 : decode cX9_mostAlike 17 = .ok (.getfield 7, 3) := by decide +kernel
theorem dX9_mostAlike_20 : decode cX9_mostAlike 20 = .ok (.iconst 0, 1) := by decide +kernel
theorem dX9_mostAlike_21 : decode cX9_mostAlike 21 = .ok (.iaload, 1) := by decide +kernel
theorem dX9_mostAlike_22 : decode cX9_mostAlike 22 = .ok (.invokevirtual 133, 3) := by decide +kernel
theorem dX9_mostAlike_25 : decode cX9_mostAlike 25 = .ok (.iastore, 1) := by decide +kernel
theorem dX9_mostAlike_26 : decode cX9_mostAlike 26 = .ok (.iinc 3 1, 3) := by decide +kernel
theorem dX9_mostAlike_29 : decode cX9_mostAlike 29 = .ok (.goto (-27), 3) := by decide +kernel
theorem dX9_mostAlike_32 : decode cX9_mostAlike 32 = .ok (.iconst 0, 1) := by decide +kernel
theorem dX9_mostAlike_33 : decode cX9_mostAlike 33 = .ok (.istore_n 3, 1) := by decide +kernel
theorem dX9_mostAlike_34 : decode cX9_mostAlike 34 = .ok (.iload_n 3, 1) := by decide +kernel
theorem dX9_mostAlike_35 : decode cX9_mostAlike 35 = .ok (.bipush 30, 2) := by decide +kernel
theorem dX9_mostAlike_37 : decode cX9_mostAlike 37 = .ok (.if_icmp .gt 16, 3) := by decide +kernel
theorem dX9_mostAlike_40 : decode cX9_mostAlike 40 = .ok (.aload_n 0, 1) := by decide +kernel
theorem dX9_mostAlike_41 : decode cX9_mostAlike 41 = .ok (.getfield 38, 3) := by decide +kernel
theorem dX9_mostAlike_44 : decode cX9_mostAlike 44 = .ok (.iload_n 3, 1) := by decide +kernel
theorem dX9_mostAlike_45 : decode cX9_mostAlike 45 = .ok (.iconst 0, 1) := by decide +kernel
theorem dX9_mostAlike_46 : decode cX9_mostAlike 46 = .ok (.iastore, 1) := by decide +kernel
theorem dX9_mostAlike_47 : decode cX9_mostAlike 47 = .ok (.iinc 3 1, 3) := by decide +kernel
theorem dX9_mostAlike_50 : decode cX9_mostAlike 50 = .ok (.goto (-16), 3) := by decide +kernel
theorem dX9_mostAlike_53 : decode cX9_mostAlike 53 = .ok (.iconst 0, 1) := by decide +kernel
theorem dX9_mostAlike_54 : decode cX9_mostAlike 54 = .ok (.istore_n 3, 1) := by decide +kernel
theorem dX9_mostAlike_55 : decode cX9_mostAlike 55 = .ok (.iconst 0, 1) := by decide +kernel
theorem dX9_mostAlike_56 : decode cX9_mostAlike 56 = .ok (.istore 4, 2) := by decide +kernel
theorem dX9_mostAlike_58 : decode cX9_mostAlike 58 = .ok (.iload 4, 2) := by decide +kernel
theorem dX9_mostAlike_60 : decode cX9_mostAlike 60 = .ok (.sipush 256, 3) := by decide +kernel
theorem dX9_mostAlike_63 : decode cX9_mostAlike 63 = .ok (.if_icmp .ge 68, 3) := by decide +kernel
theorem dX9_mostAlike_66 : decode cX9_mostAlike 66 = .ok (.aload_n 0, 1) := by decide +kernel
theorem dX9_mostAlike_67 : decode cX9_mostAlike 67 = .ok (.getfield 31, 3) := by decide +kernel
theorem dX9_mostAlike_70 : decode cX9_mostAlike 70 = .ok (.iload 4, 2) := by decide +kernel
theorem dX9_mostAlike_72 : decode cX9_mostAlike 72 = .ok (.baload, 1) := by decide +kernel
theorem dX9_mostAlike_73 : decode cX9_mostAlike 73 = .ok (.ifCond .eq 52, 3) := by decide +kernel
theorem dX9_mostAlike_76 : decode cX9_mostAlike 76 = .ok (.aload_n 0, 1) := by decide +kernel
theorem dX9_mostAlike_77 : decode cX9_mostAlike 77 = .ok (.getfield 35, 3) := by decide +kernel
theorem dX9_mostAlike_80 : decode cX9_mostAlike 80 = .ok (.aload_n 0, 1) := by decide +kernel
theorem dX9_mostAlike_81 : decode cX9_mostAlike 81 = .ok (.iload_n 1, 1) := by decide +kernel
theorem dX9_mostAlike_82 : decode cX9_mostAlike 82 = .ok (.iload_n 2, 1) := by decide +kernel
theorem dX9_mostAlike_83 : decode cX9_mostAlike 83 = .ok (.iload 4, 2) := by decide +kernel
theorem dX9_mostAlike_85 : decode cX9_mostAlike 85 = .ok (.invokevirtual 130, 3) := by decide +kernel
theorem dX9_mostAlike_88 : decode cX9_mostAlike 88 = .ok (.iaload, 1) := by decide +kernel
theorem dX9_mostAlike_89 : decode cX9_mostAlike 89 = .ok (.istore 5, 2) := by decide +kernel
theorem dX9_mostAlike_91 : decode cX9_mostAlike 91 = .ok (.aload_n 0, 1) := by decide +kernel
theorem dX9_mostAlike_92 : decode cX9_mostAlike 92 = .ok (.getfield 38, 3) := by decide +kernel
theorem dX9_mostAlike_95 : decode cX9_mostAlike 95 = .ok (.iload 5, 2) := by decide +kernel
theorem dX9_mostAlike_97 : decode cX9_mostAlike 97 = .ok (.dup2, 1) := by decide +kernel
theorem dX9_mostAlike_98 : decode cX9_mostAlike 98 = .ok (.iaload, 1) := by decide +kernel
theorem dX9_mostAlike_99 : decode cX9_mostAlike 99 = .ok (.iconst 1, 1) := by decide +kernel
theorem dX9_mostAlike_100 : decode cX9_mostAlike 100 = .ok (.iadd, 1) := by decide +kernel
theorem dX9_mostAlike_101 : decode cX9_mostAlike 101 = .ok (.iastore, 1) := by decide +kernel
theorem dX9_mostAlike_102 : decode cX9_mostAlike 102 = .ok (.aload_n 0, 1) := by decide +kernel
theorem dX9_mostAlike_103 : decode cX9_mostAlike 103 = .ok (.getfield 38, 3) := by decide +kernel
theorem dX9_mostAlike_106 : decode cX9_mostAlike 106 = .ok (.iload 5, 2) := by decide +kernel
theorem dX9_mostAlike_108 : decode cX9_mostAlike 108 = .ok (.iaload, 1) := by decide +kernel
theorem dX9_mostAlike_109 : decode cX9_mostAlike 109 = .ok (.iload_n 3, 1) := by decide +kernel
theorem dX9_mostAlike_110 : decode cX9_mostAlike 110 = .ok (.if_icmp .le 13, 3) := by decide +kernel
theorem dX9_mostAlike_113 : decode cX9_mostAlike 113 = .ok (.aload_n 0, 1) := by decide +kernel
theorem dX9_mostAlike_114 : decode cX9_mostAlike 114 = .ok (.getfield 38, 3) := by decide +kernel
theorem dX9_mostAlike_117 : decode cX9_mostAlike 117 = .ok (.iload 5, 2) := by decide +kernel
theorem dX9_mostAlike_119 : decode cX9_mostAlike 119 = .ok (.iaload, 1) := by decide +kernel
theorem dX9_mostAlike_120 : decode cX9_mostAlike 120 = .ok (.goto 4, 3) := by decide +kernel
theorem dX9_mostAlike_123 : decode cX9_mostAlike 123 = .ok (.iload_n 3, 1) := by decide +kernel
theorem dX9_mostAlike_124 : decode cX9_mostAlike 124 = .ok (.istore_n 3, 1) := by decide +kernel
theorem dX9_mostAlike_125 : decode cX9_mostAlike 125 = .ok (.iinc 4 1, 3) := by decide +kernel
theorem dX9_mostAlike_128 : decode cX9_mostAlike 128 = .ok (.goto (-70), 3) := by decide +kernel
theorem dX9_mostAlike_131 : decode cX9_mostAlike 131 = .ok (.iload_n 3, 1) := by decide +kernel
theorem dX9_mostAlike_132 : decode cX9_mostAlike 132 = .ok (.ireturn, 1) := by decide +kernel
set_option maxRecDepth 20000 in
theorem ggX9_question_X9_isSheet : GoodIn wsX9_question wsX9_isSheet := goodIn_r _ [6, 7, 8, 5, 9] (by decide +kernel) (by decide +kernel)
set_option maxRecDepth 20000 in
theorem gX9_question_X9_isSheet : GoodIn wsX9_question (va_wsS RX9 200 yX9_isSheet wsX9_isSheet) := goodIn_app (goodIn_of _ (by decide +kernel)) ggX9_question_X9_isSheet
set_option maxRecDepth 20000 in
theorem ggX9_question_X9_isLion : GoodIn wsX9_question wsX9_isLion := goodIn_r _ [12, 7, 8, 5, 9] (by decide +kernel) (by decide +kernel)
set_option maxRecDepth 20000 in
theorem gX9_question_X9_isLion : GoodIn wsX9_question (va_wsS RX9 175 yX9_isLion wsX9_isLion) := goodIn_app (goodIn_of _ (by decide +kernel)) ggX9_question_X9_isLion
set_option maxRecDepth 20000 in
theorem ggX9_question_X9_in : GoodIn wsX9_question wsX9_in := goodIn_r _ [9] (by decide +kernel) (by decide +kernel)
set_option maxRecDepth 20000 in
theorem gX9_question_X9_in : GoodIn wsX9_question (va_wsS RX9 57 yX9_in wsX9_in) := goodIn_app (goodIn_of _ (by decide +kernel)) ggX9_question_X9_in
set_option maxRecDepth 20000 in
theorem ggX9_question_X9_error : GoodIn wsX9_question wsX9_error := goodIn_r _ [16, 17, 18, 65, 66, 67, 68, 69, 70, 71, 72, 73, 74, 75, 76, 77, 78, 79, 80, 81, 82, 83, 84, 85, 86, 87, 88, 89] (by decide +kernel) (by decide +kernel)
set_option maxRecDepth 20000 in
theorem gX9_question_X9_error : GoodIn wsX9_question (wsV RX9 61 RX9 yX9_error wsX9_error) := goodIn_app (goodIn_of _ (by decide +kernel)) ggX9_question_X9_error
set_option maxRecDepth 20000 in
theorem ggX9_question_X9_findsFits : GoodIn wsX9_question wsX9_findsFits := goodIn_r _ [22, 2, 23, 24, 25, 26, 27, 5, 28, 29, 30, 31, 32, 33, 34, 35, 36, 37, 38, 39, 40, 41, 42, 43, 44, 45, 46, 47, 48, 49, 50, 51, 52, 53, 54, 55, 56, 57, 58, 65, 66, 67, 68, 69, 70, 71, 72, 73, 74, 75, 76, 77, 78, 79, 80, 81, 82, 83, 84, 85, 86, 87, 88, 89] (by decide +kernel) (by decide +kernel)
set_option maxRecDepth 20000 in
theorem gX9_question_X9_findsFits : GoodIn wsX9_question (wsV RX9 203 RX9 yX9_findsFits wsX9_findsFits) := goodIn_app (goodIn_of _ (by decide +kernel)) ggX9_question_X9_findsFits
set_option maxRecDepth 20000 in
theorem ggX9_question_X9_mostAlike : GoodIn wsX9_question wsX9_mostAlike := goodIn_r _ [62, 63, 29, 64, 24, 39, 40, 41, 5, 42, 43, 44, 45, 46, 47, 48, 49, 50, 51, 52, 53, 54, 55, 56, 57, 58, 32, 33, 34, 35, 36, 37, 38, 65, 66, 67, 68, 69, 70, 71, 72, 73, 74, 75, 76, 77, 78, 79, 80, 81, 82, 83, 84, 85, 86, 87, 88, 89] (by decide +kernel) (by decide +kernel)
set_option maxRecDepth 20000 in
theorem gX9_question_X9_mostAlike : GoodIn wsX9_question (wsV RX9 206 RX9 yX9_mostAlike wsX9_mostAlike) := goodIn_app (goodIn_of _ (by decide +kernel)) ggX9_question_X9_mostAlike
theorem dX9_question_0 : decode cX9_question 0 = .ok (.iload_n 1, 1) := by decide +kernel
theorem dX9_question_1 : decode cX9_question 1 = .ok (.invokestatic 200, 3) := by decide +kernel
theorem dX9_question_4 : decode cX9_question 4 = .ok (.ifCond .eq 19, 3) := by decide +kernel
theorem dX9_question_7 : decode cX9_question 7 = .ok (.iload_n 2, 1) := by decide +kernel
theorem dX9_question_8 : decode cX9_question 8 = .ok (.invokestatic 175, 3) := by decide +kernel
theorem dX9_question_11 : decode cX9_question 11 = .ok (.ifCond .eq 12, 3) := by decide +kernel
theorem dX9_question_14 : decode cX9_question 14 = .ok (.iload_n 3, 1) := by decide +kernel
theorem dX9_question_15 : decode cX9_question 15 = .ok (.iconst 0, 1) := by decide +kernel
theorem dX9_question_16 : decode cX9_question 16 = .ok (.iconst 1, 1) := by decide +kernel
theorem dX9_question_17 : decode cX9_question 17 = .ok (.invokestatic 57, 3) := by decide +kernel
theorem dX9_question_20 : decode cX9_question 20 = .ok (.ifCond .ne 9, 3) := by decide +kernel
theorem dX9_question_23 : decode cX9_question 23 = .ok (.aload_n 0, 1) := by decide +kernel
theorem dX9_question_24 : decode cX9_question 24 = .ok (.iconst 1, 1) := by decide +kernel
theorem dX9_question_25 : decode cX9_question 25 = .ok (.invokevirtual 61, 3) := by decide +kernel
theorem dX9_question_28 : decode cX9_question 28 = .ok (.ireturn, 1) := by decide +kernel
theorem dX9_question_29 : decode cX9_question 29 = .ok (.aload_n 0, 1) := by decide +kernel
theorem dX9_question_30 : decode cX9_question 30 = .ok (.getfield 44, 3) := by decide +kernel
theorem dX9_question_33 : decode cX9_question 33 = .ok (.iload_n 1, 1) := by decide +kernel
theorem dX9_question_34 : decode cX9_question 34 = .ok (.iaload, 1) := by decide +kernel
theorem dX9_question_35 : decode cX9_question 35 = .ok (.ifCond .ne 9, 3) := by decide +kernel
theorem dX9_question_38 : decode cX9_question 38 = .ok (.aload_n 0, 1) := by decide +kernel
theorem dX9_question_39 : decode cX9_question 39 = .ok (.iconst 2, 1) := by decide +kernel
theorem dX9_question_40 : decode cX9_question 40 = .ok (.invokevirtual 61, 3) := by decide +kernel
theorem dX9_question_43 : decode cX9_question 43 = .ok (.ireturn, 1) := by decide +kernel
theorem dX9_question_44 : decode cX9_question 44 = .ok (.aload_n 0, 1) := by decide +kernel
theorem dX9_question_45 : decode cX9_question 45 = .ok (.iload_n 1, 1) := by decide +kernel
theorem dX9_question_46 : decode cX9_question 46 = .ok (.iload_n 2, 1) := by decide +kernel
theorem dX9_question_47 : decode cX9_question 47 = .ok (.invokevirtual 203, 3) := by decide +kernel
theorem dX9_question_50 : decode cX9_question 50 = .ok (.aload_n 0, 1) := by decide +kernel
theorem dX9_question_51 : decode cX9_question 51 = .ok (.getfield 191, 3) := by decide +kernel
theorem dX9_question_54 : decode cX9_question 54 = .ok (.ifCond .ne 9, 3) := by decide +kernel
theorem dX9_question_57 : decode cX9_question 57 = .ok (.aload_n 0, 1) := by decide +kernel
theorem dX9_question_58 : decode cX9_question 58 = .ok (.iconst 3, 1) := by decide +kernel
theorem dX9_question_59 : decode cX9_question 59 = .ok (.invokevirtual 61, 3) := by decide +kernel
theorem dX9_question_62 : decode cX9_question 62 = .ok (.ireturn, 1) := by decide +kernel
theorem dX9_question_63 : decode cX9_question 63 = .ok (.iconst 0, 1) := by decide +kernel
theorem dX9_question_64 : decode cX9_question 64 = .ok (.istore 4, 2) := by decide +kernel
theorem dX9_question_66 : decode cX9_question 66 = .ok (.sipush 257, 3) := by decide +kernel
theorem dX9_question_69 : decode cX9_question 69 = .ok (.istore 5, 2) := by decide +kernel
theorem dX9_question_71 : decode cX9_question 71 = .ok (.iconst 0, 1) := by decide +kernel
theorem dX9_question_72 : decode cX9_question 72 = .ok (.istore 6, 2) := by decide +kernel
theorem dX9_question_74 : decode cX9_question 74 = .ok (.iload 6, 2) := by decide +kernel
theorem dX9_question_76 : decode cX9_question 76 = .ok (.sipush 256, 3) := by decide +kernel
theorem dX9_question_79 : decode cX9_question 79 = .ok (.if_icmp .ge 50, 3) := by decide +kernel
theorem dX9_question_82 : decode cX9_question 82 = .ok (.aload_n 0, 1) := by decide +kernel
theorem dX9_question_83 : decode cX9_question 83 = .ok (.iload_n 2, 1) := by decide +kernel
theorem dX9_question_84 : decode cX9_question 84 = .ok (.iload 6, 2) := by decide +kernel
theorem dX9_question_86 : decode cX9_question 86 = .ok (.invokevirtual 206, 3) := by decide +kernel
theorem dX9_question_89 : decode cX9_question 89 = .ok (.istore 7, 2) := by decide +kernel
theorem dX9_question_91 : decode cX9_question 91 = .ok (.iload 7, 2) := by decide +kernel
theorem dX9_question_93 : decode cX9_question 93 = .ok (.iload 5, 2) := by decide +kernel
theorem dX9_question_95 : decode cX9_question 95 = .ok (.if_icmp .ge 8, 3) := by decide +kernel
theorem dX9_question_98 : decode cX9_question 98 = .ok (.iload 6, 2) := by decide +kernel
theorem dX9_question_100 : decode cX9_question 100 = .ok (.goto 5, 3) := by decide +kernel
theorem dX9_question_103 : decode cX9_question 103 = .ok (.iload 4, 2) := by decide +kernel
theorem dX9_question_105 : decode cX9_question 105 = .ok (.istore 4, 2) := by decide +kernel
theorem dX9_question_107 : decode cX9_question 107 = .ok (.iload 7, 2) := by decide +kernel
theorem dX9_question_109 : decode cX9_question 109 = .ok (.iload 5, 2) := by decide +kernel
theorem dX9_question_111 : decode cX9_question 111 = .ok (.if_icmp .ge 8, 3) := by decide +kernel
theorem dX9_question_114 : decode cX9_question 114 = .ok (.iload 7, 2) := by decide +kernel
theorem dX9_question_116 : decode cX9_question 116 = .ok (.goto 5, 3) := by decide +kernel
theorem dX9_question_119 : decode cX9_question 119 = .ok (.iload 5, 2) := by decide +kernel
theorem dX9_question_121 : decode cX9_question 121 = .ok (.istore 5, 2) := by decide +kernel
theorem dX9_question_123 : decode cX9_question 123 = .ok (.iinc 6 1, 3) := by decide +kernel
theorem dX9_question_126 : decode cX9_question 126 = .ok (.goto (-52), 3) := by decide +kernel
theorem dX9_question_129 : decode cX9_question 129 = .ok (.iload_n 3, 1) := by decide +kernel
theorem dX9_question_130 : decode cX9_question 130 = .ok (.ifCond .ne 8, 3) := by decide +kernel
theorem dX9_question_133 : decode cX9_question 133 = .ok (.iload 4, 2) := by decide +kernel
theorem dX9_question_135 : decode cX9_question 135 = .ok (.goto 5, 3) := by decide +kernel
theorem dX9_question_138 : decode cX9_question 138 = .ok (.iload 5, 2) := by decide +kernel
theorem dX9_question_140 : decode cX9_question 140 = .ok (.ireturn, 1) := by decide +kernel
theorem dX9_common_0 : decode cX9_common 0 = .ok (.iload_n 0, 1) := by decide +kernel
theorem dX9_common_1 : decode cX9_common 1 = .ok (.istore_n 2, 1) := by decide +kernel
theorem dX9_common_2 : decode cX9_common 2 = .ok (.iload_n 1, 1) := by decide +kernel
theorem dX9_common_3 : decode cX9_common 3 = .ok (.istore_n 3, 1) := by decide +kernel
theorem dX9_common_4 : decode cX9_common 4 = .ok (.iload_n 3, 1) := by decide +kernel
theorem dX9_common_5 : decode cX9_common 5 = .ok (.ifCond .eq 16, 3) := by decide +kernel
theorem dX9_common_8 : decode cX9_common 8 = .ok (.iload_n 2, 1) := by decide +kernel
theorem dX9_common_9 : decode cX9_common 9 = .ok (.iload_n 3, 1) := by decide +kernel
theorem dX9_common_10 : decode cX9_common 10 = .ok (.irem, 1) := by decide +kernel
theorem dX9_common_11 : decode cX9_common 11 = .ok (.istore 4, 2) := by decide +kernel
theorem dX9_common_13 : decode cX9_common 13 = .ok (.iload_n 3, 1) := by decide +kernel
theorem dX9_common_14 : decode cX9_common 14 = .ok (.istore_n 2, 1) := by decide +kernel
theorem dX9_common_15 : decode cX9_common 15 = .ok (.iload 4, 2) := by decide +kernel
theorem dX9_common_17 : decode cX9_common 17 = .ok (.istore_n 3, 1) := by decide +kernel
theorem dX9_common_18 : decode cX9_common 18 = .ok (.goto (-14), 3) := by decide +kernel
theorem dX9_common_21 : decode cX9_common 21 = .ok (.iload_n 2, 1) := by decide +kernel
theorem dX9_common_22 : decode cX9_common 22 = .ok (.ireturn, 1) := by decide +kernel
set_option maxRecDepth 20000 in
theorem ggX9_odds_X9_isReader : GoodIn wsX9_odds wsX9_isReader := goodIn_r _ [6, 1, 7, 8, 5, 9, 87, 88, 89, 90, 91, 92, 93, 94, 95, 96, 97, 98, 99, 100, 101, 102, 103, 104, 105, 106, 107, 108, 109, 110, 111] (by decide +kernel) (by decide +kernel)
set_option maxRecDepth 20000 in
theorem gX9_odds_X9_isReader : GoodIn wsX9_odds (wsV RX9 163 RX9 yX9_isReader wsX9_isReader) := goodIn_app (goodIn_of _ (by decide +kernel)) ggX9_odds_X9_isReader
set_option maxRecDepth 20000 in
theorem ggX9_odds_X9_in : GoodIn wsX9_odds wsX9_in := goodIn_r _ [9] (by decide +kernel) (by decide +kernel)
set_option maxRecDepth 20000 in
theorem gX9_odds_X9_in : GoodIn wsX9_odds (va_wsS RX9 57 yX9_in wsX9_in) := goodIn_app (goodIn_of _ (by decide +kernel)) ggX9_odds_X9_in
set_option maxRecDepth 20000 in
theorem ggX9_odds_X9_error : GoodIn wsX9_odds wsX9_error := goodIn_r _ [13, 14, 15, 87, 88, 89, 90, 91, 92, 93, 94, 95, 96, 97, 98, 99, 100, 101, 102, 103, 104, 105, 106, 107, 108, 109, 110, 111] (by decide +kernel) (by decide +kernel)
set_option maxRecDepth 20000 in
theorem gX9_odds_X9_error : GoodIn wsX9_odds (wsV RX9 61 RX9 yX9_error wsX9_error) := goodIn_app (goodIn_of _ (by decide +kernel)) ggX9_odds_X9_error
set_option maxRecDepth 20000 in
theorem ggX9_odds_X9_saves : GoodIn wsX9_odds wsX9_saves := goodIn_r _ [19, 20, 1, 87, 88, 89, 90, 91, 92, 93, 94, 95, 96, 97, 98, 99, 100, 101, 102, 103, 104, 105, 106, 107, 108, 109, 110, 111] (by decide +kernel) (by decide +kernel)
set_option maxRecDepth 20000 in
theorem gX9_odds_X9_saves : GoodIn wsX9_odds (wsV RX9 185 RX9 yX9_saves wsX9_saves) := goodIn_app (goodIn_of _ (by decide +kernel)) ggX9_odds_X9_saves
set_option maxRecDepth 20000 in
theorem ggX9_odds_X9_goes : GoodIn wsX9_odds wsX9_goes := goodIn_r _ [24, 1, 25, 26, 27, 5, 28, 29, 30, 31, 32, 33, 34, 35, 36, 37, 38, 39, 40, 41, 42, 43, 44, 45, 46, 47, 48, 49, 50, 51, 52, 53, 54, 55, 56, 57, 58, 59, 60, 61, 62, 63, 64, 65, 66, 67, 68, 69, 70, 71, 72, 73, 74, 75, 76, 77, 78, 79, 87, 88, 89, 90, 91, 92, 93, 94, 95, 96, 97, 98, 99, 100, 101, 102, 103, 104, 105, 106, 107, 108, 109, 110, 111] (by decide +kernel) (by decide +kernel)
set_option maxRecDepth 20000 in
theorem gX9_odds_X9_goes : GoodIn wsX9_odds (wsV RX9 178 RX9 yX9_goes wsX9_goes) := goodIn_app (goodIn_of _ (by decide +kernel)) ggX9_odds_X9_goes
set_option maxRecDepth 20000 in
theorem ggX9_odds_X9_its : GoodIn wsX9_odds wsX9_its := goodIn_r _ [67, 1, 87, 88, 89, 90, 91, 92, 93, 94, 95, 96, 97, 98, 99, 100, 101, 102, 103, 104, 105, 106, 107, 108, 109, 110, 111] (by decide +kernel) (by decide +kernel)
set_option maxRecDepth 20000 in
theorem gX9_odds_X9_its : GoodIn wsX9_odds (wsV RX9 136 RX9 yX9_its wsX9_its) := goodIn_app (goodIn_of _ (by decide +kernel)) ggX9_odds_X9_its
set_option maxRecDepth 20000 in
theorem ggX9_odds_X9_putsBack : GoodIn wsX9_odds wsX9_putsBack := goodIn_r _ [83, 1, 20, 87, 88, 89, 90, 91, 92, 93, 94, 95, 96, 97, 98, 99, 100, 101, 102, 103, 104, 105, 106, 107, 108, 109, 110, 111] (by decide +kernel) (by decide +kernel)
set_option maxRecDepth 20000 in
theorem gX9_odds_X9_putsBack : GoodIn wsX9_odds (wsV RX9 188 RX9 yX9_putsBack wsX9_putsBack) := goodIn_app (goodIn_of _ (by decide +kernel)) ggX9_odds_X9_putsBack
set_option maxRecDepth 20000 in
theorem ggX9_odds_X9_common : GoodIn wsX9_odds wsX9_common := goodIn_r _ [86] (by decide +kernel) (by decide +kernel)
set_option maxRecDepth 20000 in
theorem gX9_odds_X9_common : GoodIn wsX9_odds (va_wsS RX9 209 yX9_common wsX9_common) := goodIn_app (goodIn_of _ (by decide +kernel)) ggX9_odds_X9_common
theorem dX9_odds_0 : decode cX9_odds 0 = .ok (.aload_n 0, 1) := by decide +kernel
theorem dX9_odds_1 : decode cX9_odds 1 = .ok (.iload_n 1, 1) := by decide +kernel
theorem dX9_odds_2 : decode cX9_odds 2 = .ok (.invokevirtual 163, 3) := by decide +kernel
theorem dX9_odds_5 : decode cX9_odds 5 = .ok (.ifCond .eq 34, 3) := by decide +kernel
theorem dX9_odds_8 : decode cX9_odds 8 = .ok (.iload_n 2, 1) := by decide +kernel
theorem dX9_odds_9 : decode cX9_odds 9 = .ok (.iconst 0, 1) := by decide +kernel
theorem dX9_odds_10 : decode cX9_odds 10 = .ok (.sipush 9999, 3) := by decide +kernel
theorem dX9_odds_13 : decode cX9_odds 13 = .ok (.invokestatic 57, 3) := by decide +kernel
theorem dX9_odds_16 : decode cX9_odds 16 = .ok (.ifCond .eq 23, 3) := by decide +kernel
theorem dX9_odds_19 : decode cX9_odds 19 = .ok (.iload_n 3, 1) := by decide +kernel
theorem dX9_odds_20 : decode cX9_odds 20 = .ok (.iconst 0, 1) := by decide +kernel
theorem dX9_odds_21 : decode cX9_odds 21 = .ok (.bipush 20, 2) := by decide +kernel
theorem dX9_odds_23 : decode cX9_odds 23 = .ok (.invokestatic 57, 3) := by decide +kernel
theorem dX9_odds_26 : decode cX9_odds 26 = .ok (.ifCond .eq 13, 3) := by decide +kernel
theorem dX9_odds_29 : decode cX9_odds 29 = .ok (.iload 4, 2) := by decide +kernel
theorem dX9_odds_31 : decode cX9_odds 31 = .ok (.iconst 0, 1) := by decide +kernel
theorem dX9_odds_32 : decode cX9_odds 32 = .ok (.iconst 1, 1) := by decide +kernel
theorem dX9_odds_33 : decode cX9_odds 33 = .ok (.invokestatic 57, 3) := by decide +kernel
theorem dX9_odds_36 : decode cX9_odds 36 = .ok (.ifCond .ne 9, 3) := by decide +kernel
theorem dX9_odds_39 : decode cX9_odds 39 = .ok (.aload_n 0, 1) := by decide +kernel
theorem dX9_odds_40 : decode cX9_odds 40 = .ok (.iconst 1, 1) := by decide +kernel
theorem dX9_odds_41 : decode cX9_odds 41 = .ok (.invokevirtual 61, 3) := by decide +kernel
theorem dX9_odds_44 : decode cX9_odds 44 = .ok (.ireturn, 1) := by decide +kernel
theorem dX9_odds_45 : decode cX9_odds 45 = .ok (.iconst 0, 1) := by decide +kernel
theorem dX9_odds_46 : decode cX9_odds 46 = .ok (.istore 5, 2) := by decide +kernel
theorem dX9_odds_48 : decode cX9_odds 48 = .ok (.aload_n 0, 1) := by decide +kernel
theorem dX9_odds_49 : decode cX9_odds 49 = .ok (.invokevirtual 185, 3) := by decide +kernel
theorem dX9_odds_52 : decode cX9_odds 52 = .ok (.iconst 0, 1) := by decide +kernel
theorem dX9_odds_53 : decode cX9_odds 53 = .ok (.istore 6, 2) := by decide +kernel
theorem dX9_odds_55 : decode cX9_odds 55 = .ok (.iload 6, 2) := by decide +kernel
theorem dX9_odds_57 : decode cX9_odds 57 = .ok (.sipush 256, 3) := by decide +kernel
theorem dX9_odds_60 : decode cX9_odds 60 = .ok (.if_icmp .ge 46, 3) := by decide +kernel
theorem dX9_odds_63 : decode cX9_odds 63 = .ok (.aload_n 0, 1) := by decide +kernel
theorem dX9_odds_64 : decode cX9_odds 64 = .ok (.getfield 7, 3) := by decide +kernel
theorem dX9_odds_67 : decode cX9_odds 67 = .ok (.iconst 1, 1) := by decide +kernel
theorem dX9_odds_68 : decode cX9_odds 68 = .ok (.iload 6, 2) := by decide +kernel
theorem dX9_odds_70 : decode cX9_odds 70 = .ok (.iastore, 1) := by decide +kernel
theorem dX9_odds_71 : decode cX9_odds 71 = .ok (.aload_n 0, 1) := by decide +kernel
theorem dX9_odds_72 : decode cX9_odds 72 = .ok (.iload_n 3, 1) := by decide +kernel
theorem dX9_odds_73 : decode cX9_odds 73 = .ok (.invokevirtual 178, 3) := by decide +kernel
theorem dX9_odds_76 : decode cX9_odds 76 = .ok (.iload 5, 2) := by decide +kernel
theorem dX9_odds_78 : decode cX9_odds 78 = .ok (.aload_n 0, 1) := by decide +kernel
theorem dX9_odds_79 : decode cX9_odds 79 = .ok (.iload_n 1, 1) := by decide +kernel
theorem dX9_odds_80 : decode cX9_odds 80 = .ok (.iconst 2, 1) := by decide +kernel
theorem dX9_odds_81 : decode cX9_odds 81 = .ok (.invokevirtual 136, 3) := by decide +kernel
theorem dX9_odds_84 : decode cX9_odds 84 = .ok (.iload_n 2, 1) := by decide +kernel
theorem dX9_odds_85 : decode cX9_odds 85 = .ok (.if_icmp .lt 7, 3) := by decide +kernel
theorem dX9_odds_88 : decode cX9_odds 88 = .ok (.iconst 1, 1) := by decide +kernel
theorem dX9_odds_89 : decode cX9_odds 89 = .ok (.goto 4, 3) := by decide +kernel
theorem dX9_odds_92 : decode cX9_odds 92 = .ok (.iconst 0, 1) := by decide +kernel
theorem dX9_odds_93 : decode cX9_odds 93 = .ok (.iadd, 1) := by decide +kernel
theorem dX9_odds_94 : decode cX9_odds 94 = .ok (.istore 5, 2) := by decide +kernel
theorem dX9_odds_96 : decode cX9_odds 96 = .ok (.aload_n 0, 1) := by decide +kernel
theorem dX9_odds_97 : decode cX9_odds 97 = .ok (.invokevirtual 188, 3) := by decide +kernel
theorem dX9_odds_100 : decode cX9_odds 100 = .ok (.iinc 6 1, 3) := by decide +kernel
theorem dX9_odds_103 : decode cX9_odds 103 = .ok (.goto (-48), 3) := by decide +kernel
theorem dX9_odds_106 : decode cX9_odds 106 = .ok (.iload 4, 2) := by decide +kernel
theorem dX9_odds_108 : decode cX9_odds 108 = .ok (.ifCond .ne 8, 3) := by decide +kernel
theorem dX9_odds_111 : decode cX9_odds 111 = .ok (.iload 5, 2) := by decide +kernel
theorem dX9_odds_113 : decode cX9_odds 113 = .ok (.goto 6, 3) := by decide +kernel
theorem dX9_odds_116 : decode cX9_odds 116 = .ok (.sipush 256, 3) := by decide +kernel
theorem dX9_odds_119 : decode cX9_odds 119 = .ok (.iload 5, 2) := by decide +kernel
theorem dX9_odds_121 : decode cX9_odds 121 = .ok (.sipush 256, 3) := by decide +kernel
theorem dX9_odds_124 : decode cX9_odds 124 = .ok (.invokestatic 209, 3) := by decide +kernel
theorem dX9_odds_127 : decode cX9_odds 127 = .ok (.idiv, 1) := by decide +kernel
theorem dX9_odds_128 : decode cX9_odds 128 = .ok (.ireturn, 1) := by decide +kernel
theorem dX9_begins_0 : decode cX9_begins 0 = .ok (.aload_n 0, 1) := by decide +kernel
theorem dX9_begins_1 : decode cX9_begins 1 = .ok (.getfield 212, 3) := by decide +kernel
theorem dX9_begins_4 : decode cX9_begins 4 = .ok (.bipush 30, 2) := by decide +kernel
theorem dX9_begins_6 : decode cX9_begins 6 = .ok (.if_icmp .ge 23, 3) := by decide +kernel
theorem dX9_begins_9 : decode cX9_begins 9 = .ok (.aload_n 0, 1) := by decide +kernel
theorem dX9_begins_10 : decode cX9_begins 10 = .ok (.getfield 41, 3) := by decide +kernel
theorem dX9_begins_13 : decode cX9_begins 13 = .ok (.aload_n 0, 1) := by decide +kernel
theorem dX9_begins_14 : decode cX9_begins 14 = .ok (.getfield 212, 3) := by decide +kernel
theorem dX9_begins_17 : decode cX9_begins 17 = .ok (.iload_n 1, 1) := by decide +kernel
theorem dX9_begins_18 : decode cX9_begins 18 = .ok (.iastore, 1) := by decide +kernel
theorem dX9_begins_19 : decode cX9_begins 19 = .ok (.aload_n 0, 1) := by decide +kernel
theorem dX9_begins_20 : decode cX9_begins 20 = .ok (.dup, 1) := by decide +kernel
theorem dX9_begins_21 : decode cX9_begins 21 = .ok (.getfield 212, 3) := by decide +kernel
theorem dX9_begins_24 : decode cX9_begins 24 = .ok (.iconst 1, 1) := by decide +kernel
theorem dX9_begins_25 : decode cX9_begins 25 = .ok (.iadd, 1) := by decide +kernel
theorem dX9_begins_26 : decode cX9_begins 26 = .ok (.putfield 212, 3) := by decide +kernel
theorem dX9_begins_29 : decode cX9_begins 29 = .ok (.return_, 1) := by decide +kernel
theorem dX9_above_0 : decode cX9_above 0 = .ok (.iload_n 0, 1) := by decide +kernel
theorem dX9_above_1 : decode cX9_above 1 = .ok (.iconst 4, 1) := by decide +kernel
theorem dX9_above_2 : decode cX9_above 2 = .ok (.if_icmp .ne 7, 3) := by decide +kernel
theorem dX9_above_5 : decode cX9_above 5 = .ok (.iconst 1, 1) := by decide +kernel
theorem dX9_above_6 : decode cX9_above 6 = .ok (.goto 13, 3) := by decide +kernel
theorem dX9_above_9 : decode cX9_above 9 = .ok (.iload_n 0, 1) := by decide +kernel
theorem dX9_above_10 : decode cX9_above 10 = .ok (.iconst 5, 1) := by decide +kernel
theorem dX9_above_11 : decode cX9_above 11 = .ok (.if_icmp .ne 7, 3) := by decide +kernel
theorem dX9_above_14 : decode cX9_above 14 = .ok (.iconst 2, 1) := by decide +kernel
theorem dX9_above_15 : decode cX9_above 15 = .ok (.goto 4, 3) := by decide +kernel
theorem dX9_above_18 : decode cX9_above 18 = .ok (.iconst 0, 1) := by decide +kernel
theorem dX9_above_19 : decode cX9_above 19 = .ok (.ireturn, 1) := by decide +kernel
set_option maxRecDepth 20000 in
theorem ggX9_kindNow_X9_its : GoodIn wsX9_kindNow wsX9_its := goodIn_r _ [6, 7, 8, 9, 10, 11, 12, 13, 14, 15, 16, 17, 18, 19, 20, 21, 22, 23, 24, 25, 26, 27, 28, 29, 30, 31, 32] (by decide +kernel) (by decide +kernel)
set_option maxRecDepth 20000 in
theorem gX9_kindNow_X9_its : GoodIn wsX9_kindNow (wsV RX9 136 RX9 yX9_its wsX9_its) := goodIn_app (goodIn_of _ (by decide +kernel)) ggX9_kindNow_X9_its
theorem dX9_kindNow_0 : decode cX9_kindNow 0 = .ok (.aload_n 0, 1) := by decide +kernel
theorem dX9_kindNow_1 : decode cX9_kindNow 1 = .ok (.aload_n 0, 1) := by decide +kernel
theorem dX9_kindNow_2 : decode cX9_kindNow 2 = .ok (.getfield 215, 3) := by decide +kernel
theorem dX9_kindNow_5 : decode cX9_kindNow 5 = .ok (.iconst 0, 1) := by decide +kernel
theorem dX9_kindNow_6 : decode cX9_kindNow 6 = .ok (.invokevirtual 136, 3) := by decide +kernel
theorem dX9_kindNow_9 : decode cX9_kindNow 9 = .ok (.ireturn, 1) := by decide +kernel
set_option maxRecDepth 20000 in
theorem ggX9_mNow_X9_its : GoodIn wsX9_mNow wsX9_its := goodIn_r _ [6, 7, 8, 9, 10, 11, 12, 13, 14, 15, 16, 17, 18, 19, 20, 21, 22, 23, 24, 25, 26, 27, 28, 29, 30, 31, 32] (by decide +kernel) (by decide +kernel)
set_option maxRecDepth 20000 in
theorem gX9_mNow_X9_its : GoodIn wsX9_mNow (wsV RX9 136 RX9 yX9_its wsX9_its) := goodIn_app (goodIn_of _ (by decide +kernel)) ggX9_mNow_X9_its
theorem dX9_mNow_0 : decode cX9_mNow 0 = .ok (.aload_n 0, 1) := by decide +kernel
theorem dX9_mNow_1 : decode cX9_mNow 1 = .ok (.aload_n 0, 1) := by decide +kernel
theorem dX9_mNow_2 : decode cX9_mNow 2 = .ok (.getfield 215, 3) := by decide +kernel
theorem dX9_mNow_5 : decode cX9_mNow 5 = .ok (.iconst 1, 1) := by decide +kernel
theorem dX9_mNow_6 : decode cX9_mNow 6 = .ok (.invokevirtual 136, 3) := by decide +kernel
theorem dX9_mNow_9 : decode cX9_mNow 9 = .ok (.ireturn, 1) := by decide +kernel
set_option maxRecDepth 20000 in
theorem ggX9_stopsAs_X9_begins : GoodIn wsX9_stopsAs wsX9_begins := goodIn_r _ [6, 7, 8, 15, 16, 17, 18, 19, 20, 21, 22, 23, 24, 25, 26, 27, 28, 29, 30, 31, 32, 33, 34, 35, 36, 37, 38, 39] (by decide +kernel) (by decide +kernel)
set_option maxRecDepth 20000 in
theorem gX9_stopsAs_X9_begins : GoodIn wsX9_stopsAs (wsV RX9 218 RX9 yX9_begins wsX9_begins) := goodIn_app (goodIn_of _ (by decide +kernel)) ggX9_stopsAs_X9_begins
set_option maxRecDepth 20000 in
theorem ggX9_stopsAs_X9_above : GoodIn wsX9_stopsAs wsX9_above := goodIn_r _ [11] (by decide +kernel) (by decide +kernel)
set_option maxRecDepth 20000 in
theorem gX9_stopsAs_X9_above : GoodIn wsX9_stopsAs (va_wsS RX9 166 yX9_above wsX9_above) := goodIn_app (goodIn_of _ (by decide +kernel)) ggX9_stopsAs_X9_above
set_option maxRecDepth 20000 in
theorem ggX9_stopsAs_X9_stopsAs : GoodIn wsX9_stopsAs wsX9_stopsAs := goodIn_r _ [0, 1, 2, 3, 4, 5, 6, 7, 8, 9, 10, 11, 12, 13, 14, 15, 16, 17, 18, 19, 20, 21, 22, 23, 24, 25, 26, 27, 28, 29, 30, 31, 32, 33, 34, 35, 36, 37, 38, 39] (by decide +kernel) (by decide +kernel)
set_option maxRecDepth 20000 in
theorem gX9_stopsAs_X9_stopsAs : GoodIn wsX9_stopsAs (wsV RX9 221 RX9 yX9_stopsAs wsX9_stopsAs) := goodIn_app (goodIn_of _ (by decide +kernel)) ggX9_stopsAs_X9_stopsAs
theorem dX9_stopsAs_0 : decode cX9_stopsAs 0 = .ok (.iload_n 1, 1) := by decide +kernel
theorem dX9_stopsAs_1 : decode cX9_stopsAs 1 = .ok (.tableswitch 101 0 6 #[43, 56, 101, 101, 74, 101, 92], 43) := by decide +kernel
theorem dX9_stopsAs_44 : decode cX9_stopsAs 44 = .ok (.aload_n 0, 1) := by decide +kernel
theorem dX9_stopsAs_45 : decode cX9_stopsAs 45 = .ok (.bipush 10, 2) := by decide +kernel
theorem dX9_stopsAs_47 : decode cX9_stopsAs 47 = .ok (.invokevirtual 218, 3) := by decide +kernel
theorem dX9_stopsAs_50 : decode cX9_stopsAs 50 = .ok (.iload_n 2, 1) := by decide +kernel
theorem dX9_stopsAs_51 : decode cX9_stopsAs 51 = .ok (.aload_n 0, 1) := by decide +kernel
theorem dX9_stopsAs_52 : decode cX9_stopsAs 52 = .ok (.getfield 215, 3) := by decide +kernel
theorem dX9_stopsAs_55 : decode cX9_stopsAs 55 = .ok (.iadd, 1) := by decide +kernel
theorem dX9_stopsAs_56 : decode cX9_stopsAs 56 = .ok (.ireturn, 1) := by decide +kernel
theorem dX9_stopsAs_57 : decode cX9_stopsAs 57 = .ok (.aload_n 0, 1) := by decide +kernel
theorem dX9_stopsAs_58 : decode cX9_stopsAs 58 = .ok (.bipush 20, 2) := by decide +kernel
theorem dX9_stopsAs_60 : decode cX9_stopsAs 60 = .ok (.invokevirtual 218, 3) := by decide +kernel
theorem dX9_stopsAs_63 : decode cX9_stopsAs 63 = .ok (.aload_n 0, 1) := by decide +kernel
theorem dX9_stopsAs_64 : decode cX9_stopsAs 64 = .ok (.iconst 1, 1) := by decide +kernel
theorem dX9_stopsAs_65 : decode cX9_stopsAs 65 = .ok (.invokestatic 166, 3) := by decide +kernel
theorem dX9_stopsAs_68 : decode cX9_stopsAs 68 = .ok (.iload_n 2, 1) := by decide +kernel
theorem dX9_stopsAs_69 : decode cX9_stopsAs 69 = .ok (.invokevirtual 221, 3) := by decide +kernel
theorem dX9_stopsAs_72 : decode cX9_stopsAs 72 = .ok (.iconst 4, 1) := by decide +kernel
theorem dX9_stopsAs_73 : decode cX9_stopsAs 73 = .ok (.isub, 1) := by decide +kernel
theorem dX9_stopsAs_74 : decode cX9_stopsAs 74 = .ok (.ireturn, 1) := by decide +kernel
theorem dX9_stopsAs_75 : decode cX9_stopsAs 75 = .ok (.aload_n 0, 1) := by decide +kernel
theorem dX9_stopsAs_76 : decode cX9_stopsAs 76 = .ok (.bipush 50, 2) := by decide +kernel
theorem dX9_stopsAs_78 : decode cX9_stopsAs 78 = .ok (.invokevirtual 218, 3) := by decide +kernel
theorem dX9_stopsAs_81 : decode cX9_stopsAs 81 = .ok (.aload_n 0, 1) := by decide +kernel
theorem dX9_stopsAs_82 : decode cX9_stopsAs 82 = .ok (.iconst 4, 1) := by decide +kernel
theorem dX9_stopsAs_83 : decode cX9_stopsAs 83 = .ok (.invokestatic 166, 3) := by decide +kernel
theorem dX9_stopsAs_86 : decode cX9_stopsAs 86 = .ok (.iload_n 2, 1) := by decide +kernel
theorem dX9_stopsAs_87 : decode cX9_stopsAs 87 = .ok (.invokevirtual 221, 3) := by decide +kernel
theorem dX9_stopsAs_90 : decode cX9_stopsAs 90 = .ok (.iconst 3, 1) := by decide +kernel
theorem dX9_stopsAs_91 : decode cX9_stopsAs 91 = .ok (.imul, 1) := by decide +kernel
theorem dX9_stopsAs_92 : decode cX9_stopsAs 92 = .ok (.ireturn, 1) := by decide +kernel
theorem dX9_stopsAs_93 : decode cX9_stopsAs 93 = .ok (.aload_n 0, 1) := by decide +kernel
theorem dX9_stopsAs_94 : decode cX9_stopsAs 94 = .ok (.bipush 70, 2) := by decide +kernel
theorem dX9_stopsAs_96 : decode cX9_stopsAs 96 = .ok (.invokevirtual 218, 3) := by decide +kernel
theorem dX9_stopsAs_99 : decode cX9_stopsAs 99 = .ok (.bipush 9, 2) := by decide +kernel
theorem dX9_stopsAs_101 : decode cX9_stopsAs 101 = .ok (.ireturn, 1) := by decide +kernel
theorem dX9_stopsAs_102 : decode cX9_stopsAs 102 = .ok (.aload_n 0, 1) := by decide +kernel
theorem dX9_stopsAs_103 : decode cX9_stopsAs 103 = .ok (.iload_n 1, 1) := by decide +kernel
theorem dX9_stopsAs_104 : decode cX9_stopsAs 104 = .ok (.invokestatic 166, 3) := by decide +kernel
theorem dX9_stopsAs_107 : decode cX9_stopsAs 107 = .ok (.iload_n 2, 1) := by decide +kernel
theorem dX9_stopsAs_108 : decode cX9_stopsAs 108 = .ok (.invokevirtual 221, 3) := by decide +kernel
theorem dX9_stopsAs_111 : decode cX9_stopsAs 111 = .ok (.ireturn, 1) := by decide +kernel
set_option maxRecDepth 20000 in
theorem ggX9_readsAs_X9_begins : GoodIn wsX9_readsAs wsX9_begins := goodIn_r _ [5, 6, 7, 32, 33, 34, 35, 36, 37, 38, 39, 40, 41, 42, 43, 44, 45, 46, 47, 48, 49, 50, 51, 52, 53, 54, 55, 56] (by decide +kernel) (by decide +kernel)
set_option maxRecDepth 20000 in
theorem gX9_readsAs_X9_begins : GoodIn wsX9_readsAs (wsV RX9 218 RX9 yX9_begins wsX9_begins) := goodIn_app (goodIn_of _ (by decide +kernel)) ggX9_readsAs_X9_begins
set_option maxRecDepth 20000 in
theorem ggX9_readsAs_X9_kindNow : GoodIn wsX9_readsAs wsX9_kindNow := goodIn_r _ [11, 12, 13, 14, 15, 4, 16, 17, 32, 33, 34, 35, 36, 37, 38, 39, 40, 41, 42, 43, 44, 45, 46, 47, 48, 49, 50, 51, 52, 53, 54, 55, 56] (by decide +kernel) (by decide +kernel)
set_option maxRecDepth 20000 in
theorem gX9_readsAs_X9_kindNow : GoodIn wsX9_readsAs (wsV RX9 224 RX9 yX9_kindNow wsX9_kindNow) := goodIn_app (goodIn_of _ (by decide +kernel)) ggX9_readsAs_X9_kindNow
set_option maxRecDepth 20000 in
theorem ggX9_readsAs_X9_stopsAs : GoodIn wsX9_readsAs wsX9_stopsAs := goodIn_r _ [21, 12, 1, 2, 3, 4, 5, 6, 7, 22, 23, 24, 18, 19, 20, 32, 33, 34, 35, 36, 37, 38, 39, 40, 41, 42, 43, 44, 45, 46, 47, 48, 49, 50, 51, 52, 53, 54, 55, 56] (by decide +kernel) (by decide +kernel)
set_option maxRecDepth 20000 in
theorem gX9_readsAs_X9_stopsAs : GoodIn wsX9_readsAs (wsV RX9 221 RX9 yX9_stopsAs wsX9_stopsAs) := goodIn_app (goodIn_of _ (by decide +kernel)) ggX9_readsAs_X9_stopsAs
set_option maxRecDepth 20000 in
theorem ggX9_readsAs_X9_above : GoodIn wsX9_readsAs wsX9_above := goodIn_r _ [24] (by decide +kernel) (by decide +kernel)
set_option maxRecDepth 20000 in
theorem gX9_readsAs_X9_above : GoodIn wsX9_readsAs (va_wsS RX9 166 yX9_above wsX9_above) := goodIn_app (goodIn_of _ (by decide +kernel)) ggX9_readsAs_X9_above
set_option maxRecDepth 20000 in
theorem ggX9_readsAs_X9_readsAs : GoodIn wsX9_readsAs wsX9_readsAs := goodIn_r _ [0, 1, 2, 3, 4, 5, 6, 7, 8, 9, 10, 11, 12, 13, 14, 15, 16, 17, 18, 19, 20, 21, 22, 23, 24, 25, 26, 27, 28, 29, 30, 31, 32, 33, 34, 35, 36, 37, 38, 39, 40, 41, 42, 43, 44, 45, 46, 47, 48, 49, 50, 51, 52, 53, 54, 55, 56] (by decide +kernel) (by decide +kernel)
set_option maxRecDepth 20000 in
theorem gX9_readsAs_X9_readsAs : GoodIn wsX9_readsAs (wsV RX9 227 RX9 yX9_readsAs wsX9_readsAs) := goodIn_app (goodIn_of _ (by decide +kernel)) ggX9_readsAs_X9_readsAs
set_option maxRecDepth 20000 in
theorem ggX9_readsAs_X9_mNow : GoodIn wsX9_readsAs wsX9_mNow := goodIn_r _ [31, 12, 13, 14, 15, 4, 16, 17, 32, 33, 34, 35, 36, 37, 38, 39, 40, 41, 42, 43, 44, 45, 46, 47, 48, 49, 50, 51, 52, 53, 54, 55, 56] (by decide +kernel) (by decide +kernel)
set_option maxRecDepth 20000 in
theorem gX9_readsAs_X9_mNow : GoodIn wsX9_readsAs (wsV RX9 230 RX9 yX9_mNow wsX9_mNow) := goodIn_app (goodIn_of _ (by decide +kernel)) ggX9_readsAs_X9_mNow
theorem dX9_readsAs_0 : decode cX9_readsAs 0 = .ok (.iload_n 1, 1) := by decide +kernel
theorem dX9_readsAs_1 : decode cX9_readsAs 1 = .ok (.tableswitch 119 0 6 #[43, 119, 61, 119, 119, 79, 97], 43) := by decide +kernel
theorem dX9_readsAs_44 : decode cX9_readsAs 44 = .ok (.aload_n 0, 1) := by decide +kernel
theorem dX9_readsAs_45 : decode cX9_readsAs 45 = .ok (.bipush 11, 2) := by decide +kernel
theorem dX9_readsAs_47 : decode cX9_readsAs 47 = .ok (.invokevirtual 218, 3) := by decide +kernel
theorem dX9_readsAs_50 : decode cX9_readsAs 50 = .ok (.aload_n 0, 1) := by decide +kernel
theorem dX9_readsAs_51 : decode cX9_readsAs 51 = .ok (.aload_n 0, 1) := by decide +kernel
theorem dX9_readsAs_52 : decode cX9_readsAs 52 = .ok (.invokevirtual 224, 3) := by decide +kernel
theorem dX9_readsAs_55 : decode cX9_readsAs 55 = .ok (.iload_n 2, 1) := by decide +kernel
theorem dX9_readsAs_56 : decode cX9_readsAs 56 = .ok (.invokevirtual 221, 3) := by decide +kernel
theorem dX9_readsAs_59 : decode cX9_readsAs 59 = .ok (.iconst 2, 1) := by decide +kernel
theorem dX9_readsAs_60 : decode cX9_readsAs 60 = .ok (.imul, 1) := by decide +kernel
theorem dX9_readsAs_61 : decode cX9_readsAs 61 = .ok (.ireturn, 1) := by decide +kernel
theorem dX9_readsAs_62 : decode cX9_readsAs 62 = .ok (.aload_n 0, 1) := by decide +kernel
theorem dX9_readsAs_63 : decode cX9_readsAs 63 = .ok (.bipush 30, 2) := by decide +kernel
theorem dX9_readsAs_65 : decode cX9_readsAs 65 = .ok (.invokevirtual 218, 3) := by decide +kernel
theorem dX9_readsAs_68 : decode cX9_readsAs 68 = .ok (.iconst 0, 1) := by decide +kernel
theorem dX9_readsAs_69 : decode cX9_readsAs 69 = .ok (.aload_n 0, 1) := by decide +kernel
theorem dX9_readsAs_70 : decode cX9_readsAs 70 = .ok (.iconst 2, 1) := by decide +kernel
theorem dX9_readsAs_71 : decode cX9_readsAs 71 = .ok (.invokestatic 166, 3) := by decide +kernel
theorem dX9_readsAs_74 : decode cX9_readsAs 74 = .ok (.iload_n 2, 1) := by decide +kernel
theorem dX9_readsAs_75 : decode cX9_readsAs 75 = .ok (.invokevirtual 227, 3) := by decide +kernel
theorem dX9_readsAs_78 : decode cX9_readsAs 78 = .ok (.isub, 1) := by decide +kernel
theorem dX9_readsAs_79 : decode cX9_readsAs 79 = .ok (.ireturn, 1) := by decide +kernel
theorem dX9_readsAs_80 : decode cX9_readsAs 80 = .ok (.aload_n 0, 1) := by decide +kernel
theorem dX9_readsAs_81 : decode cX9_readsAs 81 = .ok (.bipush 60, 2) := by decide +kernel
theorem dX9_readsAs_83 : decode cX9_readsAs 83 = .ok (.invokevirtual 218, 3) := by decide +kernel
theorem dX9_readsAs_86 : decode cX9_readsAs 86 = .ok (.aload_n 0, 1) := by decide +kernel
theorem dX9_readsAs_87 : decode cX9_readsAs 87 = .ok (.iconst 5, 1) := by decide +kernel
theorem dX9_readsAs_88 : decode cX9_readsAs 88 = .ok (.invokestatic 166, 3) := by decide +kernel
theorem dX9_readsAs_91 : decode cX9_readsAs 91 = .ok (.iload_n 2, 1) := by decide +kernel
theorem dX9_readsAs_92 : decode cX9_readsAs 92 = .ok (.iconst 1, 1) := by decide +kernel
theorem dX9_readsAs_93 : decode cX9_readsAs 93 = .ok (.iadd, 1) := by decide +kernel
theorem dX9_readsAs_94 : decode cX9_readsAs 94 = .ok (.invokevirtual 227, 3) := by decide +kernel
theorem dX9_readsAs_97 : decode cX9_readsAs 97 = .ok (.ireturn, 1) := by decide +kernel
theorem dX9_readsAs_98 : decode cX9_readsAs 98 = .ok (.aload_n 0, 1) := by decide +kernel
theorem dX9_readsAs_99 : decode cX9_readsAs 99 = .ok (.bipush 71, 2) := by decide +kernel
theorem dX9_readsAs_101 : decode cX9_readsAs 101 = .ok (.invokevirtual 218, 3) := by decide +kernel
theorem dX9_readsAs_104 : decode cX9_readsAs 104 = .ok (.aload_n 0, 1) := by decide +kernel
theorem dX9_readsAs_105 : decode cX9_readsAs 105 = .ok (.bipush 6, 2) := by decide +kernel
theorem dX9_readsAs_107 : decode cX9_readsAs 107 = .ok (.invokestatic 166, 3) := by decide +kernel
theorem dX9_readsAs_110 : decode cX9_readsAs 110 = .ok (.iload_n 2, 1) := by decide +kernel
theorem dX9_readsAs_111 : decode cX9_readsAs 111 = .ok (.invokevirtual 227, 3) := by decide +kernel
theorem dX9_readsAs_114 : decode cX9_readsAs 114 = .ok (.aload_n 0, 1) := by decide +kernel
theorem dX9_readsAs_115 : decode cX9_readsAs 115 = .ok (.invokevirtual 230, 3) := by decide +kernel
theorem dX9_readsAs_118 : decode cX9_readsAs 118 = .ok (.iadd, 1) := by decide +kernel
theorem dX9_readsAs_119 : decode cX9_readsAs 119 = .ok (.ireturn, 1) := by decide +kernel
theorem dX9_readsAs_120 : decode cX9_readsAs 120 = .ok (.aload_n 0, 1) := by decide +kernel
theorem dX9_readsAs_121 : decode cX9_readsAs 121 = .ok (.iload_n 1, 1) := by decide +kernel
theorem dX9_readsAs_122 : decode cX9_readsAs 122 = .ok (.invokestatic 166, 3) := by decide +kernel
theorem dX9_readsAs_125 : decode cX9_readsAs 125 = .ok (.iload_n 2, 1) := by decide +kernel
theorem dX9_readsAs_126 : decode cX9_readsAs 126 = .ok (.invokevirtual 227, 3) := by decide +kernel
theorem dX9_readsAs_129 : decode cX9_readsAs 129 = .ok (.ireturn, 1) := by decide +kernel
set_option maxRecDepth 20000 in
theorem ggX9_asksAs_X9_begins : GoodIn wsX9_asksAs wsX9_begins := goodIn_r _ [6, 7, 8, 36, 37, 38, 39, 40, 41, 42, 43, 44, 45, 46, 47, 48, 49, 50, 51, 52, 53, 54, 55, 56, 57, 58, 59, 60] (by decide +kernel) (by decide +kernel)
set_option maxRecDepth 20000 in
theorem gX9_asksAs_X9_begins : GoodIn wsX9_asksAs (wsV RX9 218 RX9 yX9_begins wsX9_begins) := goodIn_app (goodIn_of _ (by decide +kernel)) ggX9_asksAs_X9_begins
set_option maxRecDepth 20000 in
theorem ggX9_asksAs_X9_kindNow : GoodIn wsX9_asksAs wsX9_kindNow := goodIn_r _ [12, 1, 13, 14, 15, 5, 16, 17, 36, 37, 38, 39, 40, 41, 42, 43, 44, 45, 46, 47, 48, 49, 50, 51, 52, 53, 54, 55, 56, 57, 58, 59, 60] (by decide +kernel) (by decide +kernel)
set_option maxRecDepth 20000 in
theorem gX9_asksAs_X9_kindNow : GoodIn wsX9_asksAs (wsV RX9 224 RX9 yX9_kindNow wsX9_kindNow) := goodIn_app (goodIn_of _ (by decide +kernel)) ggX9_asksAs_X9_kindNow
set_option maxRecDepth 20000 in
theorem ggX9_asksAs_X9_readsAs : GoodIn wsX9_asksAs wsX9_readsAs := goodIn_r _ [21, 2, 3, 4, 5, 6, 7, 8, 9, 10, 11, 12, 1, 13, 14, 15, 16, 17, 22, 23, 24, 25, 26, 27, 28, 18, 19, 20, 29, 30, 31, 32, 36, 37, 38, 39, 40, 41, 42, 43, 44, 45, 46, 47, 48, 49, 50, 51, 52, 53, 54, 55, 56, 57, 58, 59, 60] (by decide +kernel) (by decide +kernel)
set_option maxRecDepth 20000 in
theorem gX9_asksAs_X9_readsAs : GoodIn wsX9_asksAs (wsV RX9 227 RX9 yX9_readsAs wsX9_readsAs) := goodIn_app (goodIn_of _ (by decide +kernel)) ggX9_asksAs_X9_readsAs
set_option maxRecDepth 20000 in
theorem ggX9_asksAs_X9_mNow : GoodIn wsX9_asksAs wsX9_mNow := goodIn_r _ [32, 1, 13, 14, 15, 5, 16, 17, 36, 37, 38, 39, 40, 41, 42, 43, 44, 45, 46, 47, 48, 49, 50, 51, 52, 53, 54, 55, 56, 57, 58, 59, 60] (by decide +kernel) (by decide +kernel)
set_option maxRecDepth 20000 in
theorem gX9_asksAs_X9_mNow : GoodIn wsX9_asksAs (wsV RX9 230 RX9 yX9_mNow wsX9_mNow) := goodIn_app (goodIn_of _ (by decide +kernel)) ggX9_asksAs_X9_mNow
set_option maxRecDepth 20000 in
theorem ggX9_asksAs_X9_above : GoodIn wsX9_asksAs wsX9_above := goodIn_r _ [28] (by decide +kernel) (by decide +kernel)
set_option maxRecDepth 20000 in
theorem gX9_asksAs_X9_above : GoodIn wsX9_asksAs (va_wsS RX9 166 yX9_above wsX9_above) := goodIn_app (goodIn_of _ (by decide +kernel)) ggX9_asksAs_X9_above
set_option maxRecDepth 20000 in
theorem ggX9_asksAs_X9_asksAs : GoodIn wsX9_asksAs wsX9_asksAs := goodIn_r _ [0, 1, 2, 3, 4, 5, 6, 7, 8, 9, 10, 11, 12, 13, 14, 15, 16, 17, 18, 19, 20, 21, 22, 23, 24, 25, 26, 27, 28, 29, 30, 31, 32, 33, 34, 35, 36, 37, 38, 39, 40, 41, 42, 43, 44, 45, 46, 47, 48, 49, 50, 51, 52, 53, 54, 55, 56, 57, 58, 59, 60] (by decide +kernel) (by decide +kernel)
set_option maxRecDepth 20000 in
theorem gX9_asksAs_X9_asksAs : GoodIn wsX9_asksAs (wsV RX9 233 RX9 yX9_asksAs wsX9_asksAs) := goodIn_app (goodIn_of _ (by decide +kernel)) ggX9_asksAs_X9_asksAs
theorem dX9_asksAs_0 : decode cX9_asksAs 0 = .ok (.iload_n 1, 1) := by decide +kernel
theorem dX9_asksAs_1 : decode cX9_asksAs 1 = .ok (.tableswitch 95 0 4 #[35, 95, 95, 56, 74], 35) := by decide +kernel
theorem dX9_asksAs_36 : decode cX9_asksAs 36 = .ok (.aload_n 0, 1) := by decide +kernel
theorem dX9_asksAs_37 : decode cX9_asksAs 37 = .ok (.bipush 12, 2) := by decide +kernel
theorem dX9_asksAs_39 : decode cX9_asksAs 39 = .ok (.invokevirtual 218, 3) := by decide +kernel
theorem dX9_asksAs_42 : decode cX9_asksAs 42 = .ok (.aload_n 0, 1) := by decide +kernel
theorem dX9_asksAs_43 : decode cX9_asksAs 43 = .ok (.aload_n 0, 1) := by decide +kernel
theorem dX9_asksAs_44 : decode cX9_asksAs 44 = .ok (.invokevirtual 224, 3) := by decide +kernel
theorem dX9_asksAs_47 : decode cX9_asksAs 47 = .ok (.iload_n 2, 1) := by decide +kernel
theorem dX9_asksAs_48 : decode cX9_asksAs 48 = .ok (.invokevirtual 227, 3) := by decide +kernel
theorem dX9_asksAs_51 : decode cX9_asksAs 51 = .ok (.aload_n 0, 1) := by decide +kernel
theorem dX9_asksAs_52 : decode cX9_asksAs 52 = .ok (.invokevirtual 230, 3) := by decide +kernel
theorem dX9_asksAs_55 : decode cX9_asksAs 55 = .ok (.isub, 1) := by decide +kernel
theorem dX9_asksAs_56 : decode cX9_asksAs 56 = .ok (.ireturn, 1) := by decide +kernel
theorem dX9_asksAs_57 : decode cX9_asksAs 57 = .ok (.aload_n 0, 1) := by decide +kernel
theorem dX9_asksAs_58 : decode cX9_asksAs 58 = .ok (.bipush 40, 2) := by decide +kernel
theorem dX9_asksAs_60 : decode cX9_asksAs 60 = .ok (.invokevirtual 218, 3) := by decide +kernel
theorem dX9_asksAs_63 : decode cX9_asksAs 63 = .ok (.aload_n 0, 1) := by decide +kernel
theorem dX9_asksAs_64 : decode cX9_asksAs 64 = .ok (.iconst 3, 1) := by decide +kernel
theorem dX9_asksAs_65 : decode cX9_asksAs 65 = .ok (.invokestatic 166, 3) := by decide +kernel
theorem dX9_asksAs_68 : decode cX9_asksAs 68 = .ok (.iload_n 2, 1) := by decide +kernel
theorem dX9_asksAs_69 : decode cX9_asksAs 69 = .ok (.iconst 2, 1) := by decide +kernel
theorem dX9_asksAs_70 : decode cX9_asksAs 70 = .ok (.idiv, 1) := by decide +kernel
theorem dX9_asksAs_71 : decode cX9_asksAs 71 = .ok (.invokevirtual 233, 3) := by decide +kernel
theorem dX9_asksAs_74 : decode cX9_asksAs 74 = .ok (.ireturn, 1) := by decide +kernel
theorem dX9_asksAs_75 : decode cX9_asksAs 75 = .ok (.aload_n 0, 1) := by decide +kernel
theorem dX9_asksAs_76 : decode cX9_asksAs 76 = .ok (.bipush 51, 2) := by decide +kernel
theorem dX9_asksAs_78 : decode cX9_asksAs 78 = .ok (.invokevirtual 218, 3) := by decide +kernel
theorem dX9_asksAs_81 : decode cX9_asksAs 81 = .ok (.aload_n 0, 1) := by decide +kernel
theorem dX9_asksAs_82 : decode cX9_asksAs 82 = .ok (.iconst 4, 1) := by decide +kernel
theorem dX9_asksAs_83 : decode cX9_asksAs 83 = .ok (.invokestatic 166, 3) := by decide +kernel
theorem dX9_asksAs_86 : decode cX9_asksAs 86 = .ok (.iload_n 2, 1) := by decide +kernel
theorem dX9_asksAs_87 : decode cX9_asksAs 87 = .ok (.invokevirtual 233, 3) := by decide +kernel
theorem dX9_asksAs_90 : decode cX9_asksAs 90 = .ok (.aload_n 0, 1) := by decide +kernel
theorem dX9_asksAs_91 : decode cX9_asksAs 91 = .ok (.getfield 215, 3) := by decide +kernel
theorem dX9_asksAs_94 : decode cX9_asksAs 94 = .ok (.ixor, 1) := by decide +kernel
theorem dX9_asksAs_95 : decode cX9_asksAs 95 = .ok (.ireturn, 1) := by decide +kernel
theorem dX9_asksAs_96 : decode cX9_asksAs 96 = .ok (.aload_n 0, 1) := by decide +kernel
theorem dX9_asksAs_97 : decode cX9_asksAs 97 = .ok (.iload_n 1, 1) := by decide +kernel
theorem dX9_asksAs_98 : decode cX9_asksAs 98 = .ok (.invokestatic 166, 3) := by decide +kernel
theorem dX9_asksAs_101 : decode cX9_asksAs 101 = .ok (.iload_n 2, 1) := by decide +kernel
theorem dX9_asksAs_102 : decode cX9_asksAs 102 = .ok (.invokevirtual 233, 3) := by decide +kernel
theorem dX9_asksAs_105 : decode cX9_asksAs 105 = .ok (.ireturn, 1) := by decide +kernel
set_option maxRecDepth 20000 in
theorem ggX9_partsAs_X9_begins : GoodIn wsX9_partsAs wsX9_begins := goodIn_r _ [7, 8, 9, 37, 38, 39, 40, 41, 42, 43, 44, 45, 46, 47, 48, 49, 50, 51, 52, 53, 54, 55, 56, 57, 58, 59, 60, 61] (by decide +kernel) (by decide +kernel)
set_option maxRecDepth 20000 in
theorem gX9_partsAs_X9_begins : GoodIn wsX9_partsAs (wsV RX9 218 RX9 yX9_begins wsX9_begins) := goodIn_app (goodIn_of _ (by decide +kernel)) ggX9_partsAs_X9_begins
set_option maxRecDepth 20000 in
theorem ggX9_partsAs_X9_mNow : GoodIn wsX9_partsAs wsX9_mNow := goodIn_r _ [13, 1, 14, 15, 16, 6, 17, 18, 37, 38, 39, 40, 41, 42, 43, 44, 45, 46, 47, 48, 49, 50, 51, 52, 53, 54, 55, 56, 57, 58, 59, 60, 61] (by decide +kernel) (by decide +kernel)
set_option maxRecDepth 20000 in
theorem gX9_partsAs_X9_mNow : GoodIn wsX9_partsAs (wsV RX9 230 RX9 yX9_mNow wsX9_mNow) := goodIn_app (goodIn_of _ (by decide +kernel)) ggX9_partsAs_X9_mNow
set_option maxRecDepth 20000 in
theorem ggX9_partsAs_X9_above : GoodIn wsX9_partsAs wsX9_above := goodIn_r _ [21] (by decide +kernel) (by decide +kernel)
set_option maxRecDepth 20000 in
theorem gX9_partsAs_X9_above : GoodIn wsX9_partsAs (va_wsS RX9 166 yX9_above wsX9_above) := goodIn_app (goodIn_of _ (by decide +kernel)) ggX9_partsAs_X9_above
set_option maxRecDepth 20000 in
theorem ggX9_partsAs_X9_partsAs : GoodIn wsX9_partsAs wsX9_partsAs := goodIn_r _ [0, 1, 2, 3, 4, 5, 6, 7, 8, 9, 10, 11, 12, 13, 14, 15, 16, 17, 18, 19, 20, 21, 22, 23, 24, 25, 26, 27, 28, 29, 30, 31, 32, 33, 34, 35, 36, 37, 38, 39, 40, 41, 42, 43, 44, 45, 46, 47, 48, 49, 50, 51, 52, 53, 54, 55, 56, 57, 58, 59, 60, 61] (by decide +kernel) (by decide +kernel)
set_option maxRecDepth 20000 in
theorem gX9_partsAs_X9_partsAs : GoodIn wsX9_partsAs (wsV RX9 240 RX9 yX9_partsAs wsX9_partsAs) := goodIn_app (goodIn_of _ (by decide +kernel)) ggX9_partsAs_X9_partsAs
set_option maxRecDepth 20000 in
theorem ggX9_partsAs_X9_kindNow : GoodIn wsX9_partsAs wsX9_kindNow := goodIn_r _ [28, 1, 14, 15, 16, 6, 17, 18, 37, 38, 39, 40, 41, 42, 43, 44, 45, 46, 47, 48, 49, 50, 51, 52, 53, 54, 55, 56, 57, 58, 59, 60, 61] (by decide +kernel) (by decide +kernel)
set_option maxRecDepth 20000 in
theorem gX9_partsAs_X9_kindNow : GoodIn wsX9_partsAs (wsV RX9 224 RX9 yX9_kindNow wsX9_kindNow) := goodIn_app (goodIn_of _ (by decide +kernel)) ggX9_partsAs_X9_kindNow
set_option maxRecDepth 20000 in
theorem ggX9_partsAs_X9_readsAs : GoodIn wsX9_partsAs wsX9_readsAs := goodIn_r _ [32, 3, 4, 5, 6, 7, 8, 9, 25, 26, 27, 28, 1, 14, 15, 16, 17, 18, 33, 34, 35, 36, 19, 20, 21, 29, 30, 31, 10, 11, 12, 13, 37, 38, 39, 40, 41, 42, 43, 44, 45, 46, 47, 48, 49, 50, 51, 52, 53, 54, 55, 56, 57, 58, 59, 60, 61] (by decide +kernel) (by decide +kernel)
set_option maxRecDepth 20000 in
theorem gX9_partsAs_X9_readsAs : GoodIn wsX9_partsAs (wsV RX9 227 RX9 yX9_readsAs wsX9_readsAs) := goodIn_app (goodIn_of _ (by decide +kernel)) ggX9_partsAs_X9_readsAs
theorem dX9_partsAs_0 : decode cX9_partsAs 0 = .ok (.iload_n 1, 1) := by decide +kernel
theorem dX9_partsAs_1 : decode cX9_partsAs 1 = .ok (.lookupswitch 119 #[(0, 27), (1, 78)], 27) := by decide +kernel
theorem dX9_partsAs_28 : decode cX9_partsAs 28 = .ok (.aload_n 0, 1) := by decide +kernel
theorem dX9_partsAs_29 : decode cX9_partsAs 29 = .ok (.bipush 13, 2) := by decide +kernel
theorem dX9_partsAs_31 : decode cX9_partsAs 31 = .ok (.invokevirtual 218, 3) := by decide +kernel
theorem dX9_partsAs_34 : decode cX9_partsAs 34 = .ok (.aload_n 0, 1) := by decide +kernel
theorem dX9_partsAs_35 : decode cX9_partsAs 35 = .ok (.invokevirtual 230, 3) := by decide +kernel
theorem dX9_partsAs_38 : decode cX9_partsAs 38 = .ok (.aload_n 0, 1) := by decide +kernel
theorem dX9_partsAs_39 : decode cX9_partsAs 39 = .ok (.getfield 215, 3) := by decide +kernel
theorem dX9_partsAs_42 : decode cX9_partsAs 42 = .ok (.isub, 1) := by decide +kernel
theorem dX9_partsAs_43 : decode cX9_partsAs 43 = .ok (.istore_n 3, 1) := by decide +kernel
theorem dX9_partsAs_44 : decode cX9_partsAs 44 = .ok (.aload_n 0, 1) := by decide +kernel
theorem dX9_partsAs_45 : decode cX9_partsAs 45 = .ok (.iload_n 3, 1) := by decide +kernel
theorem dX9_partsAs_46 : decode cX9_partsAs 46 = .ok (.ifCond .ne 7, 3) := by decide +kernel
theorem dX9_partsAs_49 : decode cX9_partsAs 49 = .ok (.iconst 1, 1) := by decide +kernel
theorem dX9_partsAs_50 : decode cX9_partsAs 50 = .ok (.goto 4, 3) := by decide +kernel
theorem dX9_partsAs_53 : decode cX9_partsAs 53 = .ok (.iconst 0, 1) := by decide +kernel
theorem dX9_partsAs_54 : decode cX9_partsAs 54 = .ok (.putfield 236, 3) := by decide +kernel
theorem dX9_partsAs_57 : decode cX9_partsAs 57 = .ok (.iload_n 3, 1) := by decide +kernel
theorem dX9_partsAs_58 : decode cX9_partsAs 58 = .ok (.ifCond .ne 7, 3) := by decide +kernel
theorem dX9_partsAs_61 : decode cX9_partsAs 61 = .ok (.iconst 0, 1) := by decide +kernel
theorem dX9_partsAs_62 : decode cX9_partsAs 62 = .ok (.goto 16, 3) := by decide +kernel
theorem dX9_partsAs_65 : decode cX9_partsAs 65 = .ok (.iload_n 3, 1) := by decide +kernel
theorem dX9_partsAs_66 : decode cX9_partsAs 66 = .ok (.iconst (-1), 1) := by decide +kernel
theorem dX9_partsAs_67 : decode cX9_partsAs 67 = .ok (.if_icmp .ne 8, 3) := by decide +kernel
theorem dX9_partsAs_70 : decode cX9_partsAs 70 = .ok (.iload_n 2, 1) := by decide +kernel
theorem dX9_partsAs_71 : decode cX9_partsAs 71 = .ok (.ineg, 1) := by decide +kernel
theorem dX9_partsAs_72 : decode cX9_partsAs 72 = .ok (.goto 6, 3) := by decide +kernel
theorem dX9_partsAs_75 : decode cX9_partsAs 75 = .ok (.iload_n 2, 1) := by decide +kernel
theorem dX9_partsAs_76 : decode cX9_partsAs 76 = .ok (.iload_n 3, 1) := by decide +kernel
theorem dX9_partsAs_77 : decode cX9_partsAs 77 = .ok (.idiv, 1) := by decide +kernel
theorem dX9_partsAs_78 : decode cX9_partsAs 78 = .ok (.ireturn, 1) := by decide +kernel
theorem dX9_partsAs_79 : decode cX9_partsAs 79 = .ok (.aload_n 0, 1) := by decide +kernel
theorem dX9_partsAs_80 : decode cX9_partsAs 80 = .ok (.bipush 21, 2) := by decide +kernel
theorem dX9_partsAs_82 : decode cX9_partsAs 82 = .ok (.invokevirtual 218, 3) := by decide +kernel
theorem dX9_partsAs_85 : decode cX9_partsAs 85 = .ok (.aload_n 0, 1) := by decide +kernel
theorem dX9_partsAs_86 : decode cX9_partsAs 86 = .ok (.iconst 1, 1) := by decide +kernel
theorem dX9_partsAs_87 : decode cX9_partsAs 87 = .ok (.invokestatic 166, 3) := by decide +kernel
theorem dX9_partsAs_90 : decode cX9_partsAs 90 = .ok (.iload_n 2, 1) := by decide +kernel
theorem dX9_partsAs_91 : decode cX9_partsAs 91 = .ok (.invokevirtual 240, 3) := by decide +kernel
theorem dX9_partsAs_94 : decode cX9_partsAs 94 = .ok (.istore 4, 2) := by decide +kernel
theorem dX9_partsAs_96 : decode cX9_partsAs 96 = .ok (.aload_n 0, 1) := by decide +kernel
theorem dX9_partsAs_97 : decode cX9_partsAs 97 = .ok (.getfield 236, 3) := by decide +kernel
theorem dX9_partsAs_100 : decode cX9_partsAs 100 = .ok (.ifCond .eq 7, 3) := by decide +kernel
theorem dX9_partsAs_103 : decode cX9_partsAs 103 = .ok (.iconst 0, 1) := by decide +kernel
theorem dX9_partsAs_104 : decode cX9_partsAs 104 = .ok (.goto 15, 3) := by decide +kernel
theorem dX9_partsAs_107 : decode cX9_partsAs 107 = .ok (.iload 4, 2) := by decide +kernel
theorem dX9_partsAs_109 : decode cX9_partsAs 109 = .ok (.aload_n 0, 1) := by decide +kernel
theorem dX9_partsAs_110 : decode cX9_partsAs 110 = .ok (.aload_n 0, 1) := by decide +kernel
theorem dX9_partsAs_111 : decode cX9_partsAs 111 = .ok (.invokevirtual 224, 3) := by decide +kernel
theorem dX9_partsAs_114 : decode cX9_partsAs 114 = .ok (.iconst 1, 1) := by decide +kernel
theorem dX9_partsAs_115 : decode cX9_partsAs 115 = .ok (.invokevirtual 227, 3) := by decide +kernel
theorem dX9_partsAs_118 : decode cX9_partsAs 118 = .ok (.iadd, 1) := by decide +kernel
theorem dX9_partsAs_119 : decode cX9_partsAs 119 = .ok (.ireturn, 1) := by decide +kernel
theorem dX9_partsAs_120 : decode cX9_partsAs 120 = .ok (.aload_n 0, 1) := by decide +kernel
theorem dX9_partsAs_121 : decode cX9_partsAs 121 = .ok (.iload_n 1, 1) := by decide +kernel
theorem dX9_partsAs_122 : decode cX9_partsAs 122 = .ok (.invokestatic 166, 3) := by decide +kernel
theorem dX9_partsAs_125 : decode cX9_partsAs 125 = .ok (.iload_n 2, 1) := by decide +kernel
theorem dX9_partsAs_126 : decode cX9_partsAs 126 = .ok (.invokevirtual 240, 3) := by decide +kernel
theorem dX9_partsAs_129 : decode cX9_partsAs 129 = .ok (.ireturn, 1) := by decide +kernel
set_option maxRecDepth 20000 in
theorem ggX9_voice_X9_isReader : GoodIn wsX9_voice wsX9_isReader := goodIn_r _ [8, 9, 10, 11, 7, 12, 55, 56, 57, 58, 59, 60, 61, 62, 63, 64, 65, 66, 67, 68, 69, 70, 71, 72, 73, 74, 75, 76, 77, 78, 79] (by decide +kernel) (by decide +kernel)
set_option maxRecDepth 20000 in
theorem gX9_voice_X9_isReader : GoodIn wsX9_voice (wsV RX9 163 RX9 yX9_isReader wsX9_isReader) := goodIn_app (goodIn_of _ (by decide +kernel)) ggX9_voice_X9_isReader
set_option maxRecDepth 20000 in
theorem ggX9_voice_X9_in : GoodIn wsX9_voice wsX9_in := goodIn_r _ [12] (by decide +kernel) (by decide +kernel)
set_option maxRecDepth 20000 in
theorem gX9_voice_X9_in : GoodIn wsX9_voice (va_wsS RX9 57 yX9_in wsX9_in) := goodIn_app (goodIn_of _ (by decide +kernel)) ggX9_voice_X9_in
set_option maxRecDepth 20000 in
theorem ggX9_voice_X9_error : GoodIn wsX9_voice wsX9_error := goodIn_r _ [16, 17, 18, 55, 56, 57, 58, 59, 60, 61, 62, 63, 64, 65, 66, 67, 68, 69, 70, 71, 72, 73, 74, 75, 76, 77, 78, 79] (by decide +kernel) (by decide +kernel)
set_option maxRecDepth 20000 in
theorem gX9_voice_X9_error : GoodIn wsX9_voice (wsV RX9 61 RX9 yX9_error wsX9_error) := goodIn_app (goodIn_of _ (by decide +kernel)) ggX9_voice_X9_error
set_option maxRecDepth 20000 in
theorem ggX9_voice_X9_kindNow : GoodIn wsX9_voice wsX9_kindNow := goodIn_r _ [22, 2, 23, 24, 25, 7, 26, 9, 55, 56, 57, 58, 59, 60, 61, 62, 63, 64, 65, 66, 67, 68, 69, 70, 71, 72, 73, 74, 75, 76, 77, 78, 79] (by decide +kernel) (by decide +kernel)
set_option maxRecDepth 20000 in
theorem gX9_voice_X9_kindNow : GoodIn wsX9_voice (wsV RX9 224 RX9 yX9_kindNow wsX9_kindNow) := goodIn_app (goodIn_of _ (by decide +kernel)) ggX9_voice_X9_kindNow
set_option maxRecDepth 20000 in
theorem ggX9_voice_X9_stopsAs : GoodIn wsX9_voice wsX9_stopsAs := goodIn_r _ [30, 2, 31, 32, 33, 7, 34, 1, 35, 36, 37, 38, 27, 28, 29, 55, 56, 57, 58, 59, 60, 61, 62, 63, 64, 65, 66, 67, 68, 69, 70, 71, 72, 73, 74, 75, 76, 77, 78, 79] (by decide +kernel) (by decide +kernel)
set_option maxRecDepth 20000 in
theorem gX9_voice_X9_stopsAs : GoodIn wsX9_voice (wsV RX9 221 RX9 yX9_stopsAs wsX9_stopsAs) := goodIn_app (goodIn_of _ (by decide +kernel)) ggX9_voice_X9_stopsAs
set_option maxRecDepth 20000 in
theorem ggX9_voice_X9_readsAs : GoodIn wsX9_voice wsX9_readsAs := goodIn_r _ [42, 31, 32, 33, 7, 34, 1, 35, 19, 20, 21, 22, 2, 23, 24, 25, 26, 9, 27, 28, 29, 30, 36, 37, 38, 39, 40, 41, 43, 44, 45, 46, 55, 56, 57, 58, 59, 60, 61, 62, 63, 64, 65, 66, 67, 68, 69, 70, 71, 72, 73, 74, 75, 76, 77, 78, 79] (by decide +kernel) (by decide +kernel)
set_option maxRecDepth 20000 in
theorem gX9_voice_X9_readsAs : GoodIn wsX9_voice (wsV RX9 227 RX9 yX9_readsAs wsX9_readsAs) := goodIn_app (goodIn_of _ (by decide +kernel)) ggX9_voice_X9_readsAs
set_option maxRecDepth 20000 in
theorem ggX9_voice_X9_asksAs : GoodIn wsX9_voice wsX9_asksAs := goodIn_r _ [50, 2, 31, 32, 33, 7, 34, 1, 35, 19, 20, 21, 22, 23, 24, 25, 26, 9, 39, 40, 41, 42, 27, 28, 29, 30, 36, 37, 38, 43, 44, 45, 46, 47, 48, 49, 55, 56, 57, 58, 59, 60, 61, 62, 63, 64, 65, 66, 67, 68, 69, 70, 71, 72, 73, 74, 75, 76, 77, 78, 79] (by decide +kernel) (by decide +kernel)
set_option maxRecDepth 20000 in
theorem gX9_voice_X9_asksAs : GoodIn wsX9_voice (wsV RX9 233 RX9 yX9_asksAs wsX9_asksAs) := goodIn_app (goodIn_of _ (by decide +kernel)) ggX9_voice_X9_asksAs
set_option maxRecDepth 20000 in
theorem ggX9_voice_X9_partsAs : GoodIn wsX9_voice wsX9_partsAs := goodIn_r _ [54, 2, 3, 31, 32, 33, 7, 34, 1, 35, 43, 44, 45, 46, 23, 24, 25, 26, 9, 36, 37, 38, 51, 52, 53, 19, 20, 21, 22, 39, 40, 41, 42, 27, 28, 29, 30, 55, 56, 57, 58, 59, 60, 61, 62, 63, 64, 65, 66, 67, 68, 69, 70, 71, 72, 73, 74, 75, 76, 77, 78, 79] (by decide +kernel) (by decide +kernel)
set_option maxRecDepth 20000 in
theorem gX9_voice_X9_partsAs : GoodIn wsX9_voice (wsV RX9 240 RX9 yX9_partsAs wsX9_partsAs) := goodIn_app (goodIn_of _ (by decide +kernel)) ggX9_voice_X9_partsAs
theorem dX9_voice_0 : decode cX9_voice 0 = .ok (.aload_n 0, 1) := by decide +kernel
theorem dX9_voice_1 : decode cX9_voice 1 = .ok (.iload_n 1, 1) := by decide +kernel
theorem dX9_voice_2 : decode cX9_voice 2 = .ok (.invokevirtual 163, 3) := by decide +kernel
theorem dX9_voice_5 : decode cX9_voice 5 = .ok (.ifCond .eq 12, 3) := by decide +kernel
theorem dX9_voice_8 : decode cX9_voice 8 = .ok (.iload_n 2, 1) := by decide +kernel
theorem dX9_voice_9 : decode cX9_voice 9 = .ok (.iconst 0, 1) := by decide +kernel
theorem dX9_voice_10 : decode cX9_voice 10 = .ok (.iconst 3, 1) := by decide +kernel
theorem dX9_voice_11 : decode cX9_voice 11 = .ok (.invokestatic 57, 3) := by decide +kernel
theorem dX9_voice_14 : decode cX9_voice 14 = .ok (.ifCond .ne 9, 3) := by decide +kernel
theorem dX9_voice_17 : decode cX9_voice 17 = .ok (.aload_n 0, 1) := by decide +kernel
theorem dX9_voice_18 : decode cX9_voice 18 = .ok (.iconst 1, 1) := by decide +kernel
theorem dX9_voice_19 : decode cX9_voice 19 = .ok (.invokevirtual 61, 3) := by decide +kernel
theorem dX9_voice_22 : decode cX9_voice 22 = .ok (.ireturn, 1) := by decide +kernel
theorem dX9_voice_23 : decode cX9_voice 23 = .ok (.aload_n 0, 1) := by decide +kernel
theorem dX9_voice_24 : decode cX9_voice 24 = .ok (.iconst 0, 1) := by decide +kernel
theorem dX9_voice_25 : decode cX9_voice 25 = .ok (.putfield 212, 3) := by decide +kernel
theorem dX9_voice_28 : decode cX9_voice 28 = .ok (.aload_n 0, 1) := by decide +kernel
theorem dX9_voice_29 : decode cX9_voice 29 = .ok (.iload_n 1, 1) := by decide +kernel
theorem dX9_voice_30 : decode cX9_voice 30 = .ok (.putfield 215, 3) := by decide +kernel
theorem dX9_voice_33 : decode cX9_voice 33 = .ok (.aload_n 0, 1) := by decide +kernel
theorem dX9_voice_34 : decode cX9_voice 34 = .ok (.iconst 0, 1) := by decide +kernel
theorem dX9_voice_35 : decode cX9_voice 35 = .ok (.putfield 236, 3) := by decide +kernel
theorem dX9_voice_38 : decode cX9_voice 38 = .ok (.aload_n 0, 1) := by decide +kernel
theorem dX9_voice_39 : decode cX9_voice 39 = .ok (.invokevirtual 224, 3) := by decide +kernel
theorem dX9_voice_42 : decode cX9_voice 42 = .ok (.istore 4, 2) := by decide +kernel
theorem dX9_voice_44 : decode cX9_voice 44 = .ok (.iload_n 2, 1) := by decide +kernel
theorem dX9_voice_45 : decode cX9_voice 45 = .ok (.ifCond .ne 13, 3) := by decide +kernel
theorem dX9_voice_48 : decode cX9_voice 48 = .ok (.aload_n 0, 1) := by decide +kernel
theorem dX9_voice_49 : decode cX9_voice 49 = .ok (.iload 4, 2) := by decide +kernel
theorem dX9_voice_51 : decode cX9_voice 51 = .ok (.iload_n 3, 1) := by decide +kernel
theorem dX9_voice_52 : decode cX9_voice 52 = .ok (.invokevirtual 221, 3) := by decide +kernel
theorem dX9_voice_55 : decode cX9_voice 55 = .ok (.goto 40, 3) := by decide +kernel
theorem dX9_voice_58 : decode cX9_voice 58 = .ok (.iload_n 2, 1) := by decide +kernel
theorem dX9_voice_59 : decode cX9_voice 59 = .ok (.iconst 1, 1) := by decide +kernel
theorem dX9_voice_60 : decode cX9_voice 60 = .ok (.if_icmp .ne 13, 3) := by decide +kernel
theorem dX9_voice_63 : decode cX9_voice 63 = .ok (.aload_n 0, 1) := by decide +kernel
theorem dX9_voice_64 : decode cX9_voice 64 = .ok (.iload 4, 2) := by decide +kernel
theorem dX9_voice_66 : decode cX9_voice 66 = .ok (.iload_n 3, 1) := by decide +kernel
theorem dX9_voice_67 : decode cX9_voice 67 = .ok (.invokevirtual 227, 3) := by decide +kernel
theorem dX9_voice_70 : decode cX9_voice 70 = .ok (.goto 25, 3) := by decide +kernel
theorem dX9_voice_73 : decode cX9_voice 73 = .ok (.iload_n 2, 1) := by decide +kernel
theorem dX9_voice_74 : decode cX9_voice 74 = .ok (.iconst 2, 1) := by decide +kernel
theorem dX9_voice_75 : decode cX9_voice 75 = .ok (.if_icmp .ne 13, 3) := by decide +kernel
theorem dX9_voice_78 : decode cX9_voice 78 = .ok (.aload_n 0, 1) := by decide +kernel
theorem dX9_voice_79 : decode cX9_voice 79 = .ok (.iload 4, 2) := by decide +kernel
theorem dX9_voice_81 : decode cX9_voice 81 = .ok (.iload_n 3, 1) := by decide +kernel
theorem dX9_voice_82 : decode cX9_voice 82 = .ok (.invokevirtual 233, 3) := by decide +kernel
theorem dX9_voice_85 : decode cX9_voice 85 = .ok (.goto 10, 3) := by decide +kernel
theorem dX9_voice_88 : decode cX9_voice 88 = .ok (.aload_n 0, 1) := by decide +kernel
theorem dX9_voice_89 : decode cX9_voice 89 = .ok (.iload 4, 2) := by decide +kernel
theorem dX9_voice_91 : decode cX9_voice 91 = .ok (.iload_n 3, 1) := by decide +kernel
theorem dX9_voice_92 : decode cX9_voice 92 = .ok (.invokevirtual 240, 3) := by decide +kernel
theorem dX9_voice_95 : decode cX9_voice 95 = .ok (.istore 5, 2) := by decide +kernel
theorem dX9_voice_97 : decode cX9_voice 97 = .ok (.aload_n 0, 1) := by decide +kernel
theorem dX9_voice_98 : decode cX9_voice 98 = .ok (.getfield 236, 3) := by decide +kernel
theorem dX9_voice_101 : decode cX9_voice 101 = .ok (.ifCond .eq 12, 3) := by decide +kernel
theorem dX9_voice_104 : decode cX9_voice 104 = .ok (.aload_n 0, 1) := by decide +kernel
theorem dX9_voice_105 : decode cX9_voice 105 = .ok (.bipush 6, 2) := by decide +kernel
theorem dX9_voice_107 : decode cX9_voice 107 = .ok (.invokevirtual 61, 3) := by decide +kernel
theorem dX9_voice_110 : decode cX9_voice 110 = .ok (.goto 5, 3) := by decide +kernel
theorem dX9_voice_113 : decode cX9_voice 113 = .ok (.iload 5, 2) := by decide +kernel
theorem dX9_voice_115 : decode cX9_voice 115 = .ok (.ireturn, 1) := by decide +kernel
set_option maxRecDepth 20000 in
theorem ggX9_body_X9_in : GoodIn wsX9_body wsX9_in := goodIn_r _ [6] (by decide +kernel) (by decide +kernel)
set_option maxRecDepth 20000 in
theorem gX9_body_X9_in : GoodIn wsX9_body (va_wsS RX9 57 yX9_in wsX9_in) := goodIn_app (goodIn_of _ (by decide +kernel)) ggX9_body_X9_in
set_option maxRecDepth 20000 in
theorem ggX9_body_X9_error : GoodIn wsX9_body wsX9_error := goodIn_r _ [10, 11, 12, 13, 14, 15, 16, 17, 18, 19, 20, 21, 22, 23, 24, 25, 26, 27, 28, 29, 30, 31, 32, 33, 34, 35, 36, 37] (by decide +kernel) (by decide +kernel)
set_option maxRecDepth 20000 in
theorem gX9_body_X9_error : GoodIn wsX9_body (wsV RX9 61 RX9 yX9_error wsX9_error) := goodIn_app (goodIn_of _ (by decide +kernel)) ggX9_body_X9_error
theorem dX9_body_0 : decode cX9_body 0 = .ok (.iload_n 1, 1) := by decide +kernel
theorem dX9_body_1 : decode cX9_body 1 = .ok (.iconst 0, 1) := by decide +kernel
theorem dX9_body_2 : decode cX9_body 2 = .ok (.aload_n 0, 1) := by decide +kernel
theorem dX9_body_3 : decode cX9_body 3 = .ok (.getfield 212, 3) := by decide +kernel
theorem dX9_body_6 : decode cX9_body 6 = .ok (.iconst 1, 1) := by decide +kernel
theorem dX9_body_7 : decode cX9_body 7 = .ok (.isub, 1) := by decide +kernel
theorem dX9_body_8 : decode cX9_body 8 = .ok (.invokestatic 57, 3) := by decide +kernel
theorem dX9_body_11 : decode cX9_body 11 = .ok (.ifCond .eq 12, 3) := by decide +kernel
theorem dX9_body_14 : decode cX9_body 14 = .ok (.aload_n 0, 1) := by decide +kernel
theorem dX9_body_15 : decode cX9_body 15 = .ok (.getfield 41, 3) := by decide +kernel
theorem dX9_body_18 : decode cX9_body 18 = .ok (.iload_n 1, 1) := by decide +kernel
theorem dX9_body_19 : decode cX9_body 19 = .ok (.iaload, 1) := by decide +kernel
theorem dX9_body_20 : decode cX9_body 20 = .ok (.goto 8, 3) := by decide +kernel
theorem dX9_body_23 : decode cX9_body 23 = .ok (.aload_n 0, 1) := by decide +kernel
theorem dX9_body_24 : decode cX9_body 24 = .ok (.iconst 2, 1) := by decide +kernel
theorem dX9_body_25 : decode cX9_body 25 = .ok (.invokevirtual 61, 3) := by decide +kernel
theorem dX9_body_28 : decode cX9_body 28 = .ok (.ireturn, 1) := by decide +kernel
set_option maxRecDepth 20000 in
theorem ggX9_isSheet_X9_in : GoodIn wsX9_isSheet wsX9_in := goodIn_r _ [4] (by decide +kernel) (by decide +kernel)
set_option maxRecDepth 20000 in
theorem gX9_isSheet_X9_in : GoodIn wsX9_isSheet (va_wsS RX9 57 yX9_in wsX9_in) := goodIn_app (goodIn_of _ (by decide +kernel)) ggX9_isSheet_X9_in
theorem dX9_isSheet_0 : decode cX9_isSheet 0 = .ok (.iload_n 0, 1) := by decide +kernel
theorem dX9_isSheet_1 : decode cX9_isSheet 1 = .ok (.iconst 0, 1) := by decide +kernel
theorem dX9_isSheet_2 : decode cX9_isSheet 2 = .ok (.iconst 3, 1) := by decide +kernel
theorem dX9_isSheet_3 : decode cX9_isSheet 3 = .ok (.invokestatic 57, 3) := by decide +kernel
theorem dX9_isSheet_6 : decode cX9_isSheet 6 = .ok (.ireturn, 1) := by decide +kernel
set_option maxRecDepth 20000 in
theorem ggX9_sheet_X9_isSheet : GoodIn wsX9_sheet wsX9_isSheet := goodIn_r _ [7, 8, 9, 6, 10] (by decide +kernel) (by decide +kernel)
set_option maxRecDepth 20000 in
theorem gX9_sheet_X9_isSheet : GoodIn wsX9_sheet (va_wsS RX9 200 yX9_isSheet wsX9_isSheet) := goodIn_app (goodIn_of _ (by decide +kernel)) ggX9_sheet_X9_isSheet
set_option maxRecDepth 20000 in
theorem ggX9_sheet_X9_error : GoodIn wsX9_sheet wsX9_error := goodIn_r _ [14, 15, 16, 17, 18, 19, 20, 21, 22, 23, 24, 25, 26, 27, 28, 29, 30, 31, 32, 33, 34, 35, 36, 37, 38, 39, 40, 41] (by decide +kernel) (by decide +kernel)
set_option maxRecDepth 20000 in
theorem gX9_sheet_X9_error : GoodIn wsX9_sheet (wsV RX9 61 RX9 yX9_error wsX9_error) := goodIn_app (goodIn_of _ (by decide +kernel)) ggX9_sheet_X9_error
theorem dX9_sheet_0 : decode cX9_sheet 0 = .ok (.iload_n 1, 1) := by decide +kernel
theorem dX9_sheet_1 : decode cX9_sheet 1 = .ok (.invokestatic 200, 3) := by decide +kernel
theorem dX9_sheet_4 : decode cX9_sheet 4 = .ok (.ifCond .eq 25, 3) := by decide +kernel
theorem dX9_sheet_7 : decode cX9_sheet 7 = .ok (.iload_n 2, 1) := by decide +kernel
theorem dX9_sheet_8 : decode cX9_sheet 8 = .ok (.ifCond .eq 27, 3) := by decide +kernel
theorem dX9_sheet_11 : decode cX9_sheet 11 = .ok (.iload_n 2, 1) := by decide +kernel
theorem dX9_sheet_12 : decode cX9_sheet 12 = .ok (.bipush 8, 2) := by decide +kernel
theorem dX9_sheet_14 : decode cX9_sheet 14 = .ok (.if_icmp .eq 21, 3) := by decide +kernel
theorem dX9_sheet_17 : decode cX9_sheet 17 = .ok (.iload_n 2, 1) := by decide +kernel
theorem dX9_sheet_18 : decode cX9_sheet 18 = .ok (.bipush 16, 2) := by decide +kernel
theorem dX9_sheet_20 : decode cX9_sheet 20 = .ok (.if_icmp .eq 15, 3) := by decide +kernel
theorem dX9_sheet_23 : decode cX9_sheet 23 = .ok (.iload_n 2, 1) := by decide +kernel
theorem dX9_sheet_24 : decode cX9_sheet 24 = .ok (.bipush 32, 2) := by decide +kernel
theorem dX9_sheet_26 : decode cX9_sheet 26 = .ok (.if_icmp .eq 9, 3) := by decide +kernel
theorem dX9_sheet_29 : decode cX9_sheet 29 = .ok (.aload_n 0, 1) := by decide +kernel
theorem dX9_sheet_30 : decode cX9_sheet 30 = .ok (.iconst 1, 1) := by decide +kernel
theorem dX9_sheet_31 : decode cX9_sheet 31 = .ok (.invokevirtual 61, 3) := by decide +kernel
theorem dX9_sheet_34 : decode cX9_sheet 34 = .ok (.ireturn, 1) := by decide +kernel
theorem dX9_sheet_35 : decode cX9_sheet 35 = .ok (.iload_n 2, 1) := by decide +kernel
theorem dX9_sheet_36 : decode cX9_sheet 36 = .ok (.ifCond .eq 13, 3) := by decide +kernel
theorem dX9_sheet_39 : decode cX9_sheet 39 = .ok (.iload_n 3, 1) := by decide +kernel
theorem dX9_sheet_40 : decode cX9_sheet 40 = .ok (.ifCond .ge 9, 3) := by decide +kernel
theorem dX9_sheet_43 : decode cX9_sheet 43 = .ok (.aload_n 0, 1) := by decide +kernel
theorem dX9_sheet_44 : decode cX9_sheet 44 = .ok (.iconst 3, 1) := by decide +kernel
theorem dX9_sheet_45 : decode cX9_sheet 45 = .ok (.invokevirtual 61, 3) := by decide +kernel
theorem dX9_sheet_48 : decode cX9_sheet 48 = .ok (.ireturn, 1) := by decide +kernel
theorem dX9_sheet_49 : decode cX9_sheet 49 = .ok (.iload_n 2, 1) := by decide +kernel
theorem dX9_sheet_50 : decode cX9_sheet 50 = .ok (.ifCond .eq 15, 3) := by decide +kernel
theorem dX9_sheet_53 : decode cX9_sheet 53 = .ok (.iload_n 3, 1) := by decide +kernel
theorem dX9_sheet_54 : decode cX9_sheet 54 = .ok (.bipush 24, 2) := by decide +kernel
theorem dX9_sheet_56 : decode cX9_sheet 56 = .ok (.if_icmp .le 9, 3) := by decide +kernel
theorem dX9_sheet_59 : decode cX9_sheet 59 = .ok (.aload_n 0, 1) := by decide +kernel
theorem dX9_sheet_60 : decode cX9_sheet 60 = .ok (.iconst 1, 1) := by decide +kernel
theorem dX9_sheet_61 : decode cX9_sheet 61 = .ok (.invokevirtual 61, 3) := by decide +kernel
theorem dX9_sheet_64 : decode cX9_sheet 64 = .ok (.ireturn, 1) := by decide +kernel
theorem dX9_sheet_65 : decode cX9_sheet 65 = .ok (.aload_n 0, 1) := by decide +kernel
theorem dX9_sheet_66 : decode cX9_sheet 66 = .ok (.getfield 44, 3) := by decide +kernel
theorem dX9_sheet_69 : decode cX9_sheet 69 = .ok (.iload_n 1, 1) := by decide +kernel
theorem dX9_sheet_70 : decode cX9_sheet 70 = .ok (.iload_n 2, 1) := by decide +kernel
theorem dX9_sheet_71 : decode cX9_sheet 71 = .ok (.iastore, 1) := by decide +kernel
theorem dX9_sheet_72 : decode cX9_sheet 72 = .ok (.aload_n 0, 1) := by decide +kernel
theorem dX9_sheet_73 : decode cX9_sheet 73 = .ok (.getfield 47, 3) := by decide +kernel
theorem dX9_sheet_76 : decode cX9_sheet 76 = .ok (.iload_n 1, 1) := by decide +kernel
theorem dX9_sheet_77 : decode cX9_sheet 77 = .ok (.iload_n 2, 1) := by decide +kernel
theorem dX9_sheet_78 : decode cX9_sheet 78 = .ok (.ifCond .ne 7, 3) := by decide +kernel
theorem dX9_sheet_81 : decode cX9_sheet 81 = .ok (.iconst 0, 1) := by decide +kernel
theorem dX9_sheet_82 : decode cX9_sheet 82 = .ok (.goto 4, 3) := by decide +kernel
theorem dX9_sheet_85 : decode cX9_sheet 85 = .ok (.iload_n 3, 1) := by decide +kernel
theorem dX9_sheet_86 : decode cX9_sheet 86 = .ok (.iastore, 1) := by decide +kernel
theorem dX9_sheet_87 : decode cX9_sheet 87 = .ok (.iconst 0, 1) := by decide +kernel
theorem dX9_sheet_88 : decode cX9_sheet 88 = .ok (.istore 4, 2) := by decide +kernel
theorem dX9_sheet_90 : decode cX9_sheet 90 = .ok (.iload 4, 2) := by decide +kernel
theorem dX9_sheet_92 : decode cX9_sheet 92 = .ok (.bipush 24, 2) := by decide +kernel
theorem dX9_sheet_94 : decode cX9_sheet 94 = .ok (.if_icmp .ge 22, 3) := by decide +kernel
theorem dX9_sheet_97 : decode cX9_sheet 97 = .ok (.aload_n 0, 1) := by decide +kernel
theorem dX9_sheet_98 : decode cX9_sheet 98 = .ok (.getfield 50, 3) := by decide +kernel
theorem dX9_sheet_101 : decode cX9_sheet 101 = .ok (.bipush 24, 2) := by decide +kernel
theorem dX9_sheet_103 : decode cX9_sheet 103 = .ok (.iload_n 1, 1) := by decide +kernel
theorem dX9_sheet_104 : decode cX9_sheet 104 = .ok (.imul, 1) := by decide +kernel
theorem dX9_sheet_105 : decode cX9_sheet 105 = .ok (.iload 4, 2) := by decide +kernel
theorem dX9_sheet_107 : decode cX9_sheet 107 = .ok (.iadd, 1) := by decide +kernel
theorem dX9_sheet_108 : decode cX9_sheet 108 = .ok (.iconst 0, 1) := by decide +kernel
theorem dX9_sheet_109 : decode cX9_sheet 109 = .ok (.iastore, 1) := by decide +kernel
theorem dX9_sheet_110 : decode cX9_sheet 110 = .ok (.iinc 4 1, 3) := by decide +kernel
theorem dX9_sheet_113 : decode cX9_sheet 113 = .ok (.goto (-23), 3) := by decide +kernel
theorem dX9_sheet_116 : decode cX9_sheet 116 = .ok (.iconst 1, 1) := by decide +kernel
theorem dX9_sheet_117 : decode cX9_sheet 117 = .ok (.ireturn, 1) := by decide +kernel
set_option maxRecDepth 20000 in
theorem ggX9_put_X9_isSheet : GoodIn wsX9_put wsX9_isSheet := goodIn_r _ [7, 8, 9, 6, 10] (by decide +kernel) (by decide +kernel)
set_option maxRecDepth 20000 in
theorem gX9_put_X9_isSheet : GoodIn wsX9_put (va_wsS RX9 200 yX9_isSheet wsX9_isSheet) := goodIn_app (goodIn_of _ (by decide +kernel)) ggX9_put_X9_isSheet
set_option maxRecDepth 20000 in
theorem ggX9_put_X9_error : GoodIn wsX9_put wsX9_error := goodIn_r _ [14, 15, 16, 17, 18, 19, 20, 21, 22, 23, 24, 25, 26, 27, 28, 29, 30, 31, 32, 33, 34, 35, 36, 37, 38, 39, 40, 41] (by decide +kernel) (by decide +kernel)
set_option maxRecDepth 20000 in
theorem gX9_put_X9_error : GoodIn wsX9_put (wsV RX9 61 RX9 yX9_error wsX9_error) := goodIn_app (goodIn_of _ (by decide +kernel)) ggX9_put_X9_error
set_option maxRecDepth 20000 in
theorem ggX9_put_X9_in : GoodIn wsX9_put wsX9_in := goodIn_r _ [10] (by decide +kernel) (by decide +kernel)
set_option maxRecDepth 20000 in
theorem gX9_put_X9_in : GoodIn wsX9_put (va_wsS RX9 57 yX9_in wsX9_in) := goodIn_app (goodIn_of _ (by decide +kernel)) ggX9_put_X9_in
theorem dX9_put_0 : decode cX9_put 0 = .ok (.iload_n 1, 1) := by decide +kernel
theorem dX9_put_1 : decode cX9_put 1 = .ok (.invokestatic 200, 3) := by decide +kernel
theorem dX9_put_4 : decode cX9_put 4 = .ok (.ifCond .ne 9, 3) := by decide +kernel
theorem dX9_put_7 : decode cX9_put 7 = .ok (.aload_n 0, 1) := by decide +kernel
theorem dX9_put_8 : decode cX9_put 8 = .ok (.iconst 1, 1) := by decide +kernel
theorem dX9_put_9 : decode cX9_put 9 = .ok (.invokevirtual 61, 3) := by decide +kernel
theorem dX9_put_12 : decode cX9_put 12 = .ok (.ireturn, 1) := by decide +kernel
theorem dX9_put_13 : decode cX9_put 13 = .ok (.aload_n 0, 1) := by decide +kernel
theorem dX9_put_14 : decode cX9_put 14 = .ok (.getfield 44, 3) := by decide +kernel
theorem dX9_put_17 : decode cX9_put 17 = .ok (.iload_n 1, 1) := by decide +kernel
theorem dX9_put_18 : decode cX9_put 18 = .ok (.iaload, 1) := by decide +kernel
theorem dX9_put_19 : decode cX9_put 19 = .ok (.ifCond .ne 9, 3) := by decide +kernel
theorem dX9_put_22 : decode cX9_put 22 = .ok (.aload_n 0, 1) := by decide +kernel
theorem dX9_put_23 : decode cX9_put 23 = .ok (.iconst 2, 1) := by decide +kernel
theorem dX9_put_24 : decode cX9_put 24 = .ok (.invokevirtual 61, 3) := by decide +kernel
theorem dX9_put_27 : decode cX9_put 27 = .ok (.ireturn, 1) := by decide +kernel
theorem dX9_put_28 : decode cX9_put 28 = .ok (.iload_n 2, 1) := by decide +kernel
theorem dX9_put_29 : decode cX9_put 29 = .ok (.iconst 0, 1) := by decide +kernel
theorem dX9_put_30 : decode cX9_put 30 = .ok (.aload_n 0, 1) := by decide +kernel
theorem dX9_put_31 : decode cX9_put 31 = .ok (.getfield 47, 3) := by decide +kernel
theorem dX9_put_34 : decode cX9_put 34 = .ok (.iload_n 1, 1) := by decide +kernel
theorem dX9_put_35 : decode cX9_put 35 = .ok (.iaload, 1) := by decide +kernel
theorem dX9_put_36 : decode cX9_put 36 = .ok (.iconst 1, 1) := by decide +kernel
theorem dX9_put_37 : decode cX9_put 37 = .ok (.isub, 1) := by decide +kernel
theorem dX9_put_38 : decode cX9_put 38 = .ok (.invokestatic 57, 3) := by decide +kernel
theorem dX9_put_41 : decode cX9_put 41 = .ok (.ifCond .ne 9, 3) := by decide +kernel
theorem dX9_put_44 : decode cX9_put 44 = .ok (.aload_n 0, 1) := by decide +kernel
theorem dX9_put_45 : decode cX9_put 45 = .ok (.iconst 1, 1) := by decide +kernel
theorem dX9_put_46 : decode cX9_put 46 = .ok (.invokevirtual 61, 3) := by decide +kernel
theorem dX9_put_49 : decode cX9_put 49 = .ok (.ireturn, 1) := by decide +kernel
theorem dX9_put_50 : decode cX9_put 50 = .ok (.bipush 32, 2) := by decide +kernel
theorem dX9_put_52 : decode cX9_put 52 = .ok (.aload_n 0, 1) := by decide +kernel
theorem dX9_put_53 : decode cX9_put 53 = .ok (.getfield 44, 3) := by decide +kernel
theorem dX9_put_56 : decode cX9_put 56 = .ok (.iload_n 1, 1) := by decide +kernel
theorem dX9_put_57 : decode cX9_put 57 = .ok (.iaload, 1) := by decide +kernel
theorem dX9_put_58 : decode cX9_put 58 = .ok (.isub, 1) := by decide +kernel
theorem dX9_put_59 : decode cX9_put 59 = .ok (.istore 4, 2) := by decide +kernel
theorem dX9_put_61 : decode cX9_put 61 = .ok (.aload_n 0, 1) := by decide +kernel
theorem dX9_put_62 : decode cX9_put 62 = .ok (.getfield 50, 3) := by decide +kernel
theorem dX9_put_65 : decode cX9_put 65 = .ok (.bipush 24, 2) := by decide +kernel
theorem dX9_put_67 : decode cX9_put 67 = .ok (.iload_n 1, 1) := by decide +kernel
theorem dX9_put_68 : decode cX9_put 68 = .ok (.imul, 1) := by decide +kernel
theorem dX9_put_69 : decode cX9_put 69 = .ok (.iload_n 2, 1) := by decide +kernel
theorem dX9_put_70 : decode cX9_put 70 = .ok (.iadd, 1) := by decide +kernel
theorem dX9_put_71 : decode cX9_put 71 = .ok (.iload_n 3, 1) := by decide +kernel
theorem dX9_put_72 : decode cX9_put 72 = .ok (.iload 4, 2) := by decide +kernel
theorem dX9_put_74 : decode cX9_put 74 = .ok (.ishl, 1) := by decide +kernel
theorem dX9_put_75 : decode cX9_put 75 = .ok (.iload 4, 2) := by decide +kernel
theorem dX9_put_77 : decode cX9_put 77 = .ok (.ishr, 1) := by decide +kernel
theorem dX9_put_78 : decode cX9_put 78 = .ok (.iastore, 1) := by decide +kernel
theorem dX9_put_79 : decode cX9_put 79 = .ok (.iconst 1, 1) := by decide +kernel
theorem dX9_put_80 : decode cX9_put 80 = .ok (.ireturn, 1) := by decide +kernel
set_option maxRecDepth 20000 in
theorem ggX9_move_X9_isSheet : GoodIn wsX9_move wsX9_isSheet := goodIn_r _ [8, 9, 10, 7, 11] (by decide +kernel) (by decide +kernel)
set_option maxRecDepth 20000 in
theorem gX9_move_X9_isSheet : GoodIn wsX9_move (va_wsS RX9 200 yX9_isSheet wsX9_isSheet) := goodIn_app (goodIn_of _ (by decide +kernel)) ggX9_move_X9_isSheet
set_option maxRecDepth 20000 in
theorem ggX9_move_X9_error : GoodIn wsX9_move wsX9_error := goodIn_r _ [15, 16, 17, 18, 19, 20, 21, 22, 23, 24, 25, 26, 27, 28, 29, 30, 31, 32, 33, 34, 35, 36, 37, 38, 39, 40, 41, 42] (by decide +kernel) (by decide +kernel)
set_option maxRecDepth 20000 in
theorem gX9_move_X9_error : GoodIn wsX9_move (wsV RX9 61 RX9 yX9_error wsX9_error) := goodIn_app (goodIn_of _ (by decide +kernel)) ggX9_move_X9_error
theorem dX9_move_0 : decode cX9_move 0 = .ok (.iload_n 1, 1) := by decide +kernel
theorem dX9_move_1 : decode cX9_move 1 = .ok (.invokestatic 200, 3) := by decide +kernel
theorem dX9_move_4 : decode cX9_move 4 = .ok (.ifCond .eq 10, 3) := by decide +kernel
theorem dX9_move_7 : decode cX9_move 7 = .ok (.iload_n 3, 1) := by decide +kernel
theorem dX9_move_8 : decode cX9_move 8 = .ok (.invokestatic 200, 3) := by decide +kernel
theorem dX9_move_11 : decode cX9_move 11 = .ok (.ifCond .ne 9, 3) := by decide +kernel
theorem dX9_move_14 : decode cX9_move 14 = .ok (.aload_n 0, 1) := by decide +kernel
theorem dX9_move_15 : decode cX9_move 15 = .ok (.iconst 1, 1) := by decide +kernel
theorem dX9_move_16 : decode cX9_move 16 = .ok (.invokevirtual 61, 3) := by decide +kernel
theorem dX9_move_19 : decode cX9_move 19 = .ok (.ireturn, 1) := by decide +kernel
theorem dX9_move_20 : decode cX9_move 20 = .ok (.aload_n 0, 1) := by decide +kernel
theorem dX9_move_21 : decode cX9_move 21 = .ok (.getfield 44, 3) := by decide +kernel
theorem dX9_move_24 : decode cX9_move 24 = .ok (.iload_n 1, 1) := by decide +kernel
theorem dX9_move_25 : decode cX9_move 25 = .ok (.iaload, 1) := by decide +kernel
theorem dX9_move_26 : decode cX9_move 26 = .ok (.ifCond .eq 12, 3) := by decide +kernel
theorem dX9_move_29 : decode cX9_move 29 = .ok (.aload_n 0, 1) := by decide +kernel
theorem dX9_move_30 : decode cX9_move 30 = .ok (.getfield 44, 3) := by decide +kernel
theorem dX9_move_33 : decode cX9_move 33 = .ok (.iload_n 3, 1) := by decide +kernel
theorem dX9_move_34 : decode cX9_move 34 = .ok (.iaload, 1) := by decide +kernel
theorem dX9_move_35 : decode cX9_move 35 = .ok (.ifCond .ne 9, 3) := by decide +kernel
theorem dX9_move_38 : decode cX9_move 38 = .ok (.aload_n 0, 1) := by decide +kernel
theorem dX9_move_39 : decode cX9_move 39 = .ok (.iconst 2, 1) := by decide +kernel
theorem dX9_move_40 : decode cX9_move 40 = .ok (.invokevirtual 61, 3) := by decide +kernel
theorem dX9_move_43 : decode cX9_move 43 = .ok (.ireturn, 1) := by decide +kernel
theorem dX9_move_44 : decode cX9_move 44 = .ok (.aload_n 0, 1) := by decide +kernel
theorem dX9_move_45 : decode cX9_move 45 = .ok (.getfield 44, 3) := by decide +kernel
theorem dX9_move_48 : decode cX9_move 48 = .ok (.iload_n 1, 1) := by decide +kernel
theorem dX9_move_49 : decode cX9_move 49 = .ok (.iaload, 1) := by decide +kernel
theorem dX9_move_50 : decode cX9_move 50 = .ok (.aload_n 0, 1) := by decide +kernel
theorem dX9_move_51 : decode cX9_move 51 = .ok (.getfield 44, 3) := by decide +kernel
theorem dX9_move_54 : decode cX9_move 54 = .ok (.iload_n 3, 1) := by decide +kernel
theorem dX9_move_55 : decode cX9_move 55 = .ok (.iaload, 1) := by decide +kernel
theorem dX9_move_56 : decode cX9_move 56 = .ok (.if_icmp .eq 9, 3) := by decide +kernel
theorem dX9_move_59 : decode cX9_move 59 = .ok (.aload_n 0, 1) := by decide +kernel
theorem dX9_move_60 : decode cX9_move 60 = .ok (.iconst 5, 1) := by decide +kernel
theorem dX9_move_61 : decode cX9_move 61 = .ok (.invokevirtual 61, 3) := by decide +kernel
theorem dX9_move_64 : decode cX9_move 64 = .ok (.ireturn, 1) := by decide +kernel
theorem dX9_move_65 : decode cX9_move 65 = .ok (.iload 5, 2) := by decide +kernel
theorem dX9_move_67 : decode cX9_move 67 = .ok (.ifCond .lt 39, 3) := by decide +kernel
theorem dX9_move_70 : decode cX9_move 70 = .ok (.iload_n 2, 1) := by decide +kernel
theorem dX9_move_71 : decode cX9_move 71 = .ok (.ifCond .lt 35, 3) := by decide +kernel
theorem dX9_move_74 : decode cX9_move 74 = .ok (.iload 4, 2) := by decide +kernel
theorem dX9_move_76 : decode cX9_move 76 = .ok (.ifCond .lt 30, 3) := by decide +kernel
theorem dX9_move_79 : decode cX9_move 79 = .ok (.iload_n 2, 1) := by decide +kernel
theorem dX9_move_80 : decode cX9_move 80 = .ok (.aload_n 0, 1) := by decide +kernel
theorem dX9_move_81 : decode cX9_move 81 = .ok (.getfield 47, 3) := by decide +kernel
theorem dX9_move_84 : decode cX9_move 84 = .ok (.iload_n 1, 1) := by decide +kernel
theorem dX9_move_85 : decode cX9_move 85 = .ok (.iaload, 1) := by decide +kernel
theorem dX9_move_86 : decode cX9_move 86 = .ok (.iload 5, 2) := by decide +kernel
theorem dX9_move_88 : decode cX9_move 88 = .ok (.isub, 1) := by decide +kernel
theorem dX9_move_89 : decode cX9_move 89 = .ok (.if_icmp .gt 17, 3) := by decide +kernel
theorem dX9_move_92 : decode cX9_move 92 = .ok (.iload 4, 2) := by decide +kernel
theorem dX9_move_94 : decode cX9_move 94 = .ok (.aload_n 0, 1) := by decide +kernel
theorem dX9_move_95 : decode cX9_move 95 = .ok (.getfield 47, 3) := by decide +kernel
theorem dX9_move_98 : decode cX9_move 98 = .ok (.iload_n 3, 1) := by decide +kernel
theorem dX9_move_99 : decode cX9_move 99 = .ok (.iaload, 1) := by decide +kernel
theorem dX9_move_100 : decode cX9_move 100 = .ok (.iload 5, 2) := by decide +kernel
theorem dX9_move_102 : decode cX9_move 102 = .ok (.isub, 1) := by decide +kernel
theorem dX9_move_103 : decode cX9_move 103 = .ok (.if_icmp .le 9, 3) := by decide +kernel
theorem dX9_move_106 : decode cX9_move 106 = .ok (.aload_n 0, 1) := by decide +kernel
theorem dX9_move_107 : decode cX9_move 107 = .ok (.iconst 1, 1) := by decide +kernel
theorem dX9_move_108 : decode cX9_move 108 = .ok (.invokevirtual 61, 3) := by decide +kernel
theorem dX9_move_111 : decode cX9_move 111 = .ok (.ireturn, 1) := by decide +kernel
theorem dX9_move_112 : decode cX9_move 112 = .ok (.iconst 0, 1) := by decide +kernel
theorem dX9_move_113 : decode cX9_move 113 = .ok (.istore 6, 2) := by decide +kernel
theorem dX9_move_115 : decode cX9_move 115 = .ok (.iload 6, 2) := by decide +kernel
theorem dX9_move_117 : decode cX9_move 117 = .ok (.iload 5, 2) := by decide +kernel
theorem dX9_move_119 : decode cX9_move 119 = .ok (.if_icmp .ge 30, 3) := by decide +kernel
theorem dX9_move_122 : decode cX9_move 122 = .ok (.aload_n 0, 1) := by decide +kernel
theorem dX9_move_123 : decode cX9_move 123 = .ok (.getfield 53, 3) := by decide +kernel
theorem dX9_move_126 : decode cX9_move 126 = .ok (.iload 6, 2) := by decide +kernel
theorem dX9_move_128 : decode cX9_move 128 = .ok (.aload_n 0, 1) := by decide +kernel
theorem dX9_move_129 : decode cX9_move 129 = .ok (.getfield 50, 3) := by decide +kernel
theorem dX9_move_132 : decode cX9_move 132 = .ok (.bipush 24, 2) := by decide +kernel
theorem dX9_move_134 : decode cX9_move 134 = .ok (.iload_n 1, 1) := by decide +kernel
theorem dX9_move_135 : decode cX9_move 135 = .ok (.imul, 1) := by decide +kernel
theorem dX9_move_136 : decode cX9_move 136 = .ok (.iload_n 2, 1) := by decide +kernel
theorem dX9_move_137 : decode cX9_move 137 = .ok (.iadd, 1) := by decide +kernel
theorem dX9_move_138 : decode cX9_move 138 = .ok (.iload 6, 2) := by decide +kernel
theorem dX9_move_140 : decode cX9_move 140 = .ok (.iadd, 1) := by decide +kernel
theorem dX9_move_141 : decode cX9_move 141 = .ok (.iaload, 1) := by decide +kernel
theorem dX9_move_142 : decode cX9_move 142 = .ok (.iastore, 1) := by decide +kernel
theorem dX9_move_143 : decode cX9_move 143 = .ok (.iinc 6 1, 3) := by decide +kernel
theorem dX9_move_146 : decode cX9_move 146 = .ok (.goto (-31), 3) := by decide +kernel
theorem dX9_move_149 : decode cX9_move 149 = .ok (.iconst 0, 1) := by decide +kernel
theorem dX9_move_150 : decode cX9_move 150 = .ok (.istore 6, 2) := by decide +kernel
theorem dX9_move_152 : decode cX9_move 152 = .ok (.iload 6, 2) := by decide +kernel
theorem dX9_move_154 : decode cX9_move 154 = .ok (.iload 5, 2) := by decide +kernel
theorem dX9_move_156 : decode cX9_move 156 = .ok (.if_icmp .ge 31, 3) := by decide +kernel
theorem dX9_move_159 : decode cX9_move 159 = .ok (.aload_n 0, 1) := by decide +kernel
theorem dX9_move_160 : decode cX9_move 160 = .ok (.getfield 50, 3) := by decide +kernel
theorem dX9_move_163 : decode cX9_move 163 = .ok (.bipush 24, 2) := by decide +kernel
theorem dX9_move_165 : decode cX9_move 165 = .ok (.iload_n 3, 1) := by decide +kernel
theorem dX9_move_166 : decode cX9_move 166 = .ok (.imul, 1) := by decide +kernel
theorem dX9_move_167 : decode cX9_move 167 = .ok (.iload 4, 2) := by decide +kernel
theorem dX9_move_169 : decode cX9_move 169 = .ok (.iadd, 1) := by decide +kernel
theorem dX9_move_170 : decode cX9_move 170 = .ok (.iload 6, 2) := by decide +kernel
theorem dX9_move_172 : decode cX9_move 172 = .ok (.iadd, 1) := by decide +kernel
theorem dX9_move_173 : decode cX9_move 173 = .ok (.aload_n 0, 1) := by decide +kernel
theorem dX9_move_174 : decode cX9_move 174 = .ok (.getfield 53, 3) := by decide +kernel
theorem dX9_move_177 : decode cX9_move 177 = .ok (.iload 6, 2) := by decide +kernel
theorem dX9_move_179 : decode cX9_move 179 = .ok (.iaload, 1) := by decide +kernel
theorem dX9_move_180 : decode cX9_move 180 = .ok (.iastore, 1) := by decide +kernel
theorem dX9_move_181 : decode cX9_move 181 = .ok (.iinc 6 1, 3) := by decide +kernel
theorem dX9_move_184 : decode cX9_move 184 = .ok (.goto (-32), 3) := by decide +kernel
theorem dX9_move_187 : decode cX9_move 187 = .ok (.iload 5, 2) := by decide +kernel
theorem dX9_move_189 : decode cX9_move 189 = .ok (.ireturn, 1) := by decide +kernel
set_option maxRecDepth 20000 in
theorem ggX9_lacks_X9_isSheet : GoodIn wsX9_lacks wsX9_isSheet := goodIn_r _ [5, 6, 7, 4, 8] (by decide +kernel) (by decide +kernel)
set_option maxRecDepth 20000 in
theorem gX9_lacks_X9_isSheet : GoodIn wsX9_lacks (va_wsS RX9 200 yX9_isSheet wsX9_isSheet) := goodIn_app (goodIn_of _ (by decide +kernel)) ggX9_lacks_X9_isSheet
theorem dX9_lacks_0 : decode cX9_lacks 0 = .ok (.iload_n 1, 1) := by decide +kernel
theorem dX9_lacks_1 : decode cX9_lacks 1 = .ok (.invokestatic 200, 3) := by decide +kernel
theorem dX9_lacks_4 : decode cX9_lacks 4 = .ok (.ifCond .ne 7, 3) := by decide +kernel
theorem dX9_lacks_7 : decode cX9_lacks 7 = .ok (.iconst 1, 1) := by decide +kernel
theorem dX9_lacks_8 : decode cX9_lacks 8 = .ok (.goto 17, 3) := by decide +kernel
theorem dX9_lacks_11 : decode cX9_lacks 11 = .ok (.aload_n 0, 1) := by decide +kernel
theorem dX9_lacks_12 : decode cX9_lacks 12 = .ok (.getfield 44, 3) := by decide +kernel
theorem dX9_lacks_15 : decode cX9_lacks 15 = .ok (.iload_n 1, 1) := by decide +kernel
theorem dX9_lacks_16 : decode cX9_lacks 16 = .ok (.iaload, 1) := by decide +kernel
theorem dX9_lacks_17 : decode cX9_lacks 17 = .ok (.ifCond .ne 7, 3) := by decide +kernel
theorem dX9_lacks_20 : decode cX9_lacks 20 = .ok (.iconst 2, 1) := by decide +kernel
theorem dX9_lacks_21 : decode cX9_lacks 21 = .ok (.goto 4, 3) := by decide +kernel
theorem dX9_lacks_24 : decode cX9_lacks 24 = .ok (.iconst 0, 1) := by decide +kernel
theorem dX9_lacks_25 : decode cX9_lacks 25 = .ok (.ireturn, 1) := by decide +kernel
set_option maxRecDepth 20000 in
theorem ggX9_markAll_X9_lacks : GoodIn wsX9_markAll wsX9_lacks := goodIn_r _ [8, 9, 10, 11, 7, 12, 13, 14, 15, 26, 27, 28, 29, 30, 31, 32, 33, 34, 35, 36, 37, 38, 39, 40, 41, 42, 43, 44, 45, 46, 47, 48, 49, 50] (by decide +kernel) (by decide +kernel)
set_option maxRecDepth 20000 in
theorem gX9_markAll_X9_lacks : GoodIn wsX9_markAll (wsV RX9 243 RX9 yX9_lacks wsX9_lacks) := goodIn_app (goodIn_of _ (by decide +kernel)) ggX9_markAll_X9_lacks
set_option maxRecDepth 20000 in
theorem ggX9_markAll_X9_error : GoodIn wsX9_markAll wsX9_error := goodIn_r _ [19, 20, 21, 26, 27, 28, 29, 30, 31, 32, 33, 34, 35, 36, 37, 38, 39, 40, 41, 42, 43, 44, 45, 46, 47, 48, 49, 50] (by decide +kernel) (by decide +kernel)
set_option maxRecDepth 20000 in
theorem gX9_markAll_X9_error : GoodIn wsX9_markAll (wsV RX9 61 RX9 yX9_error wsX9_error) := goodIn_app (goodIn_of _ (by decide +kernel)) ggX9_markAll_X9_error
set_option maxRecDepth 20000 in
theorem ggX9_markAll_X9_in : GoodIn wsX9_markAll wsX9_in := goodIn_r _ [15] (by decide +kernel) (by decide +kernel)
set_option maxRecDepth 20000 in
theorem gX9_markAll_X9_in : GoodIn wsX9_markAll (va_wsS RX9 57 yX9_in wsX9_in) := goodIn_app (goodIn_of _ (by decide +kernel)) ggX9_markAll_X9_in
set_option maxRecDepth 20000 in
theorem ggX9_markAll_X9_lays1 : GoodIn wsX9_markAll wsX9_lays1 := goodIn_r _ [25, 2, 26, 27, 28, 29, 30, 31, 32, 33, 34, 35, 36, 37, 38, 39, 40, 41, 42, 43, 44, 45, 46, 47, 48, 49, 50] (by decide +kernel) (by decide +kernel)
set_option maxRecDepth 20000 in
theorem gX9_markAll_X9_lays1 : GoodIn wsX9_markAll (wsV RX9 152 RX9 yX9_lays1 wsX9_lays1) := goodIn_app (goodIn_of _ (by decide +kernel)) ggX9_markAll_X9_lays1
theorem dX9_markAll_0 : decode cX9_markAll 0 = .ok (.aload_n 0, 1) := by decide +kernel
theorem dX9_markAll_1 : decode cX9_markAll 1 = .ok (.iload_n 1, 1) := by decide +kernel
theorem dX9_markAll_2 : decode cX9_markAll 2 = .ok (.invokevirtual 243, 3) := by decide +kernel
theorem dX9_markAll_5 : decode cX9_markAll 5 = .ok (.istore_n 2, 1) := by decide +kernel
theorem dX9_markAll_6 : decode cX9_markAll 6 = .ok (.iload_n 2, 1) := by decide +kernel
theorem dX9_markAll_7 : decode cX9_markAll 7 = .ok (.ifCond .eq 9, 3) := by decide +kernel
theorem dX9_markAll_10 : decode cX9_markAll 10 = .ok (.aload_n 0, 1) := by decide +kernel
theorem dX9_markAll_11 : decode cX9_markAll 11 = .ok (.iload_n 2, 1) := by decide +kernel
theorem dX9_markAll_12 : decode cX9_markAll 12 = .ok (.invokevirtual 61, 3) := by decide +kernel
theorem dX9_markAll_15 : decode cX9_markAll 15 = .ok (.ireturn, 1) := by decide +kernel
theorem dX9_markAll_16 : decode cX9_markAll 16 = .ok (.iconst 0, 1) := by decide +kernel
theorem dX9_markAll_17 : decode cX9_markAll 17 = .ok (.istore_n 3, 1) := by decide +kernel
theorem dX9_markAll_18 : decode cX9_markAll 18 = .ok (.iload_n 3, 1) := by decide +kernel
theorem dX9_markAll_19 : decode cX9_markAll 19 = .ok (.aload_n 0, 1) := by decide +kernel
theorem dX9_markAll_20 : decode cX9_markAll 20 = .ok (.getfield 47, 3) := by decide +kernel
theorem dX9_markAll_23 : decode cX9_markAll 23 = .ok (.iload_n 1, 1) := by decide +kernel
theorem dX9_markAll_24 : decode cX9_markAll 24 = .ok (.iaload, 1) := by decide +kernel
theorem dX9_markAll_25 : decode cX9_markAll 25 = .ok (.if_icmp .ge 58, 3) := by decide +kernel
theorem dX9_markAll_28 : decode cX9_markAll 28 = .ok (.iload_n 3, 1) := by decide +kernel
theorem dX9_markAll_29 : decode cX9_markAll 29 = .ok (.aload_n 0, 1) := by decide +kernel
theorem dX9_markAll_30 : decode cX9_markAll 30 = .ok (.getfield 7, 3) := by decide +kernel
theorem dX9_markAll_33 : decode cX9_markAll 33 = .ok (.bipush 7, 2) := by decide +kernel
theorem dX9_markAll_35 : decode cX9_markAll 35 = .ok (.iaload, 1) := by decide +kernel
theorem dX9_markAll_36 : decode cX9_markAll 36 = .ok (.if_icmp .ge 47, 3) := by decide +kernel
theorem dX9_markAll_39 : decode cX9_markAll 39 = .ok (.aload_n 0, 1) := by decide +kernel
theorem dX9_markAll_40 : decode cX9_markAll 40 = .ok (.getfield 50, 3) := by decide +kernel
theorem dX9_markAll_43 : decode cX9_markAll 43 = .ok (.bipush 24, 2) := by decide +kernel
theorem dX9_markAll_45 : decode cX9_markAll 45 = .ok (.iload_n 1, 1) := by decide +kernel
theorem dX9_markAll_46 : decode cX9_markAll 46 = .ok (.imul, 1) := by decide +kernel
theorem dX9_markAll_47 : decode cX9_markAll 47 = .ok (.iload_n 3, 1) := by decide +kernel
theorem dX9_markAll_48 : decode cX9_markAll 48 = .ok (.iadd, 1) := by decide +kernel
theorem dX9_markAll_49 : decode cX9_markAll 49 = .ok (.iaload, 1) := by decide +kernel
theorem dX9_markAll_50 : decode cX9_markAll 50 = .ok (.iconst 0, 1) := by decide +kernel
theorem dX9_markAll_51 : decode cX9_markAll 51 = .ok (.sipush 9999, 3) := by decide +kernel
theorem dX9_markAll_54 : decode cX9_markAll 54 = .ok (.invokestatic 57, 3) := by decide +kernel
theorem dX9_markAll_57 : decode cX9_markAll 57 = .ok (.ifCond .eq 26, 3) := by decide +kernel
theorem dX9_markAll_60 : decode cX9_markAll 60 = .ok (.aload_n 0, 1) := by decide +kernel
theorem dX9_markAll_61 : decode cX9_markAll 61 = .ok (.iload_n 3, 1) := by decide +kernel
theorem dX9_markAll_62 : decode cX9_markAll 62 = .ok (.iconst 2, 1) := by decide +kernel
theorem dX9_markAll_63 : decode cX9_markAll 63 = .ok (.aload_n 0, 1) := by decide +kernel
theorem dX9_markAll_64 : decode cX9_markAll 64 = .ok (.getfield 50, 3) := by decide +kernel
theorem dX9_markAll_67 : decode cX9_markAll 67 = .ok (.bipush 24, 2) := by decide +kernel
theorem dX9_markAll_69 : decode cX9_markAll 69 = .ok (.iload_n 1, 1) := by decide +kernel
theorem dX9_markAll_70 : decode cX9_markAll 70 = .ok (.imul, 1) := by decide +kernel
theorem dX9_markAll_71 : decode cX9_markAll 71 = .ok (.iload_n 3, 1) := by decide +kernel
theorem dX9_markAll_72 : decode cX9_markAll 72 = .ok (.iadd, 1) := by decide +kernel
theorem dX9_markAll_73 : decode cX9_markAll 73 = .ok (.iaload, 1) := by decide +kernel
theorem dX9_markAll_74 : decode cX9_markAll 74 = .ok (.invokevirtual 152, 3) := by decide +kernel
theorem dX9_markAll_77 : decode cX9_markAll 77 = .ok (.iinc 3 1, 3) := by decide +kernel
theorem dX9_markAll_80 : decode cX9_markAll 80 = .ok (.goto (-62), 3) := by decide +kernel
theorem dX9_markAll_83 : decode cX9_markAll 83 = .ok (.iload_n 3, 1) := by decide +kernel
theorem dX9_markAll_84 : decode cX9_markAll 84 = .ok (.ireturn, 1) := by decide +kernel
set_option maxRecDepth 20000 in
theorem ggX9_judge_X9_lacks : GoodIn wsX9_judge wsX9_lacks := goodIn_r _ [8, 9, 10, 11, 7, 12, 13, 14, 15, 26, 27, 28, 29, 30, 31, 32, 33, 34, 35, 36, 37, 38, 39, 40, 41, 42, 43, 44, 45, 46, 47, 48, 49, 50] (by decide +kernel) (by decide +kernel)
set_option maxRecDepth 20000 in
theorem gX9_judge_X9_lacks : GoodIn wsX9_judge (wsV RX9 243 RX9 yX9_lacks wsX9_lacks) := goodIn_app (goodIn_of _ (by decide +kernel)) ggX9_judge_X9_lacks
set_option maxRecDepth 20000 in
theorem ggX9_judge_X9_error : GoodIn wsX9_judge wsX9_error := goodIn_r _ [19, 20, 21, 26, 27, 28, 29, 30, 31, 32, 33, 34, 35, 36, 37, 38, 39, 40, 41, 42, 43, 44, 45, 46, 47, 48, 49, 50] (by decide +kernel) (by decide +kernel)
set_option maxRecDepth 20000 in
theorem gX9_judge_X9_error : GoodIn wsX9_judge (wsV RX9 61 RX9 yX9_error wsX9_error) := goodIn_app (goodIn_of _ (by decide +kernel)) ggX9_judge_X9_error
set_option maxRecDepth 20000 in
theorem ggX9_judge_X9_its : GoodIn wsX9_judge wsX9_its := goodIn_r _ [25, 2, 26, 27, 28, 29, 30, 31, 32, 33, 34, 35, 36, 37, 38, 39, 40, 41, 42, 43, 44, 45, 46, 47, 48, 49, 50] (by decide +kernel) (by decide +kernel)
set_option maxRecDepth 20000 in
theorem gX9_judge_X9_its : GoodIn wsX9_judge (wsV RX9 136 RX9 yX9_its wsX9_its) := goodIn_app (goodIn_of _ (by decide +kernel)) ggX9_judge_X9_its
theorem dX9_judge_0 : decode cX9_judge 0 = .ok (.aload_n 0, 1) := by decide +kernel
theorem dX9_judge_1 : decode cX9_judge 1 = .ok (.iload_n 1, 1) := by decide +kernel
theorem dX9_judge_2 : decode cX9_judge 2 = .ok (.invokevirtual 243, 3) := by decide +kernel
theorem dX9_judge_5 : decode cX9_judge 5 = .ok (.istore_n 2, 1) := by decide +kernel
theorem dX9_judge_6 : decode cX9_judge 6 = .ok (.iload_n 2, 1) := by decide +kernel
theorem dX9_judge_7 : decode cX9_judge 7 = .ok (.ifCond .eq 9, 3) := by decide +kernel
theorem dX9_judge_10 : decode cX9_judge 10 = .ok (.aload_n 0, 1) := by decide +kernel
theorem dX9_judge_11 : decode cX9_judge 11 = .ok (.iload_n 2, 1) := by decide +kernel
theorem dX9_judge_12 : decode cX9_judge 12 = .ok (.invokevirtual 61, 3) := by decide +kernel
theorem dX9_judge_15 : decode cX9_judge 15 = .ok (.ireturn, 1) := by decide +kernel
