theorem dX11_memoryThen_30 : decode cX11_memoryThen 30 = .ok (.invokevirtual 36, 3) := by decide +kernel
theorem dX11_memoryThen_33 : decode cX11_memoryThen 33 = .ok (.ireturn, 1) := by decide +kernel
theorem dX11_memoryThen_34 : decode cX11_memoryThen 34 = .ok (.aload_n 0, 1) := by decide +kernel
theorem dX11_memoryThen_35 : decode cX11_memoryThen 35 = .ok (.iload_n 3, 1) := by decide +kernel
theorem dX11_memoryThen_36 : decode cX11_memoryThen 36 = .ok (.invokevirtual 142, 3) := by decide +kernel
theorem dX11_memoryThen_39 : decode cX11_memoryThen 39 = .ok (.aload_n 0, 1) := by decide +kernel
theorem dX11_memoryThen_40 : decode cX11_memoryThen 40 = .ok (.getfield 13, 3) := by decide +kernel
theorem dX11_memoryThen_43 : decode cX11_memoryThen 43 = .ok (.iload_n 1, 1) := by decide +kernel
theorem dX11_memoryThen_44 : decode cX11_memoryThen 44 = .ok (.iload_n 2, 1) := by decide +kernel
theorem dX11_memoryThen_45 : decode cX11_memoryThen 45 = .ok (.invokestatic 56, 3) := by decide +kernel
theorem dX11_memoryThen_48 : decode cX11_memoryThen 48 = .ok (.iaload, 1) := by decide +kernel
theorem dX11_memoryThen_49 : decode cX11_memoryThen 49 = .ok (.ireturn, 1) := by decide +kernel
set_option maxRecDepth 20000 in
theorem ggX11_knownThen_X11_isOne : GoodIn wsX11_knownThen wsX11_isOne := goodIn_r _ [6, 7, 8, 9, 5, 10, 59, 60, 61, 62, 63, 64, 65, 66, 67, 68, 69, 70, 71] (by decide +kernel) (by decide +kernel)
set_option maxRecDepth 20000 in
theorem gX11_knownThen_X11_isOne : GoodIn wsX11_knownThen (wsV RX11 44 RX11 yX11_isOne wsX11_isOne) := goodIn_app (goodIn_of _ (by decide +kernel)) ggX11_knownThen_X11_isOne
set_option maxRecDepth 20000 in
theorem ggX11_knownThen_X11_wrongBy : GoodIn wsX11_knownThen wsX11_wrongBy := goodIn_r _ [13] (by decide +kernel) (by decide +kernel)
set_option maxRecDepth 20000 in
theorem gX11_knownThen_X11_wrongBy : GoodIn wsX11_knownThen (va_wsS RX11 132 yX11_wrongBy wsX11_wrongBy) := goodIn_app (goodIn_of _ (by decide +kernel)) ggX11_knownThen_X11_wrongBy
set_option maxRecDepth 20000 in
theorem ggX11_knownThen_X11_no : GoodIn wsX11_knownThen wsX11_no := goodIn_r _ [17, 18, 59, 60, 61, 62, 63, 64, 65, 66, 67, 68, 69, 70, 71] (by decide +kernel) (by decide +kernel)
set_option maxRecDepth 20000 in
theorem gX11_knownThen_X11_no : GoodIn wsX11_knownThen (wsV RX11 36 RX11 yX11_no wsX11_no) := goodIn_app (goodIn_of _ (by decide +kernel)) ggX11_knownThen_X11_no
set_option maxRecDepth 20000 in
theorem ggX11_knownThen_X11_takes : GoodIn wsX11_knownThen wsX11_takes := goodIn_r _ [22, 7, 1, 23, 24, 5, 25, 26, 27, 28, 29, 30, 31, 32, 33, 34, 35, 36, 37, 38, 39, 40, 41, 42, 43, 44, 45, 46, 47, 48, 49, 50, 51, 52, 53, 54, 55, 56, 57, 58, 59, 60, 61, 62, 63, 64, 65, 66, 67, 68, 69, 70, 71] (by decide +kernel) (by decide +kernel)
set_option maxRecDepth 20000 in
theorem gX11_knownThen_X11_takes : GoodIn wsX11_knownThen (wsV RX11 142 RX11 yX11_takes wsX11_takes) := goodIn_app (goodIn_of _ (by decide +kernel)) ggX11_knownThen_X11_takes
set_option maxRecDepth 20000 in
theorem ggX11_knownThen_X11_knownIn : GoodIn wsX11_knownThen wsX11_knownIn := goodIn_r _ [55, 38, 39, 5, 40, 35, 36, 37, 41, 42, 43] (by decide +kernel) (by decide +kernel)
set_option maxRecDepth 20000 in
theorem gX11_knownThen_X11_knownIn : GoodIn wsX11_knownThen (va_wsS RX11 62 yX11_knownIn wsX11_knownIn) := goodIn_app (goodIn_of _ (by decide +kernel)) ggX11_knownThen_X11_knownIn
theorem dX11_knownThen_0 : decode cX11_knownThen 0 = .ok (.aload_n 0, 1) := by decide +kernel
theorem dX11_knownThen_1 : decode cX11_knownThen 1 = .ok (.iload_n 1, 1) := by decide +kernel
theorem dX11_knownThen_2 : decode cX11_knownThen 2 = .ok (.invokevirtual 44, 3) := by decide +kernel
theorem dX11_knownThen_5 : decode cX11_knownThen 5 = .ok (.ifCond .eq 13, 3) := by decide +kernel
theorem dX11_knownThen_8 : decode cX11_knownThen 8 = .ok (.iload_n 2, 1) := by decide +kernel
theorem dX11_knownThen_9 : decode cX11_knownThen 9 = .ok (.iconst 0, 1) := by decide +kernel
theorem dX11_knownThen_10 : decode cX11_knownThen 10 = .ok (.bipush 99, 2) := by decide +kernel
theorem dX11_knownThen_12 : decode cX11_knownThen 12 = .ok (.invokestatic 132, 3) := by decide +kernel
theorem dX11_knownThen_15 : decode cX11_knownThen 15 = .ok (.goto 4, 3) := by decide +kernel
theorem dX11_knownThen_18 : decode cX11_knownThen 18 = .ok (.iconst (-1), 1) := by decide +kernel
theorem dX11_knownThen_19 : decode cX11_knownThen 19 = .ok (.istore_n 3, 1) := by decide +kernel
theorem dX11_knownThen_20 : decode cX11_knownThen 20 = .ok (.iload_n 3, 1) := by decide +kernel
theorem dX11_knownThen_21 : decode cX11_knownThen 21 = .ok (.ifCond .eq 9, 3) := by decide +kernel
theorem dX11_knownThen_24 : decode cX11_knownThen 24 = .ok (.aload_n 0, 1) := by decide +kernel
theorem dX11_knownThen_25 : decode cX11_knownThen 25 = .ok (.iload_n 3, 1) := by decide +kernel
theorem dX11_knownThen_26 : decode cX11_knownThen 26 = .ok (.invokevirtual 36, 3) := by decide +kernel
theorem dX11_knownThen_29 : decode cX11_knownThen 29 = .ok (.ireturn, 1) := by decide +kernel
theorem dX11_knownThen_30 : decode cX11_knownThen 30 = .ok (.aload_n 0, 1) := by decide +kernel
theorem dX11_knownThen_31 : decode cX11_knownThen 31 = .ok (.iload_n 2, 1) := by decide +kernel
theorem dX11_knownThen_32 : decode cX11_knownThen 32 = .ok (.invokevirtual 142, 3) := by decide +kernel
theorem dX11_knownThen_35 : decode cX11_knownThen 35 = .ok (.aload_n 0, 1) := by decide +kernel
theorem dX11_knownThen_36 : decode cX11_knownThen 36 = .ok (.getfield 13, 3) := by decide +kernel
theorem dX11_knownThen_39 : decode cX11_knownThen 39 = .ok (.iload_n 1, 1) := by decide +kernel
theorem dX11_knownThen_40 : decode cX11_knownThen 40 = .ok (.invokestatic 62, 3) := by decide +kernel
theorem dX11_knownThen_43 : decode cX11_knownThen 43 = .ok (.ireturn, 1) := by decide +kernel
set_option maxRecDepth 20000 in
theorem ggX11_gone_X11_wrongBy : GoodIn wsX11_gone wsX11_wrongBy := goodIn_r _ [5] (by decide +kernel) (by decide +kernel)
set_option maxRecDepth 20000 in
theorem gX11_gone_X11_wrongBy : GoodIn wsX11_gone (va_wsS RX11 132 yX11_wrongBy wsX11_wrongBy) := goodIn_app (goodIn_of _ (by decide +kernel)) ggX11_gone_X11_wrongBy
set_option maxRecDepth 20000 in
theorem ggX11_gone_X11_no : GoodIn wsX11_gone wsX11_no := goodIn_r _ [9, 10, 55, 56, 57, 58, 59, 60, 61, 62, 63, 64, 65, 66, 67] (by decide +kernel) (by decide +kernel)
set_option maxRecDepth 20000 in
theorem gX11_gone_X11_no : GoodIn wsX11_gone (wsV RX11 36 RX11 yX11_no wsX11_no) := goodIn_app (goodIn_of _ (by decide +kernel)) ggX11_gone_X11_no
set_option maxRecDepth 20000 in
theorem ggX11_gone_X11_takes : GoodIn wsX11_gone wsX11_takes := goodIn_r _ [14, 15, 1, 16, 17, 4, 18, 19, 20, 21, 22, 23, 24, 25, 26, 27, 28, 29, 30, 31, 32, 33, 34, 35, 36, 37, 38, 39, 40, 41, 42, 43, 44, 45, 46, 47, 48, 49, 50, 51, 55, 56, 57, 58, 59, 60, 61, 62, 63, 64, 65, 66, 67] (by decide +kernel) (by decide +kernel)
set_option maxRecDepth 20000 in
theorem gX11_gone_X11_takes : GoodIn wsX11_gone (wsV RX11 142 RX11 yX11_takes wsX11_takes) := goodIn_app (goodIn_of _ (by decide +kernel)) ggX11_gone_X11_takes
set_option maxRecDepth 20000 in
theorem ggX11_gone_X11_hereIn : GoodIn wsX11_gone wsX11_hereIn := goodIn_r _ [54, 28, 29, 4, 30] (by decide +kernel) (by decide +kernel)
set_option maxRecDepth 20000 in
theorem gX11_gone_X11_hereIn : GoodIn wsX11_gone (va_wsS RX11 136 yX11_hereIn wsX11_hereIn) := goodIn_app (goodIn_of _ (by decide +kernel)) ggX11_gone_X11_hereIn
theorem dX11_gone_0 : decode cX11_gone 0 = .ok (.iload_n 1, 1) := by decide +kernel
theorem dX11_gone_1 : decode cX11_gone 1 = .ok (.iconst 0, 1) := by decide +kernel
theorem dX11_gone_2 : decode cX11_gone 2 = .ok (.bipush 99, 2) := by decide +kernel
theorem dX11_gone_4 : decode cX11_gone 4 = .ok (.invokestatic 132, 3) := by decide +kernel
theorem dX11_gone_7 : decode cX11_gone 7 = .ok (.istore_n 2, 1) := by decide +kernel
theorem dX11_gone_8 : decode cX11_gone 8 = .ok (.iload_n 2, 1) := by decide +kernel
theorem dX11_gone_9 : decode cX11_gone 9 = .ok (.ifCond .eq 9, 3) := by decide +kernel
theorem dX11_gone_12 : decode cX11_gone 12 = .ok (.aload_n 0, 1) := by decide +kernel
theorem dX11_gone_13 : decode cX11_gone 13 = .ok (.iload_n 2, 1) := by decide +kernel
theorem dX11_gone_14 : decode cX11_gone 14 = .ok (.invokevirtual 36, 3) := by decide +kernel
theorem dX11_gone_17 : decode cX11_gone 17 = .ok (.ireturn, 1) := by decide +kernel
theorem dX11_gone_18 : decode cX11_gone 18 = .ok (.aload_n 0, 1) := by decide +kernel
theorem dX11_gone_19 : decode cX11_gone 19 = .ok (.iload_n 1, 1) := by decide +kernel
theorem dX11_gone_20 : decode cX11_gone 20 = .ok (.invokevirtual 142, 3) := by decide +kernel
theorem dX11_gone_23 : decode cX11_gone 23 = .ok (.iconst 1, 1) := by decide +kernel
theorem dX11_gone_24 : decode cX11_gone 24 = .ok (.aload_n 0, 1) := by decide +kernel
theorem dX11_gone_25 : decode cX11_gone 25 = .ok (.getfield 13, 3) := by decide +kernel
theorem dX11_gone_28 : decode cX11_gone 28 = .ok (.iconst 0, 1) := by decide +kernel
theorem dX11_gone_29 : decode cX11_gone 29 = .ok (.iaload, 1) := by decide +kernel
theorem dX11_gone_30 : decode cX11_gone 30 = .ok (.ishl, 1) := by decide +kernel
theorem dX11_gone_31 : decode cX11_gone 31 = .ok (.iconst 1, 1) := by decide +kernel
theorem dX11_gone_32 : decode cX11_gone 32 = .ok (.isub, 1) := by decide +kernel
theorem dX11_gone_33 : decode cX11_gone 33 = .ok (.aload_n 0, 1) := by decide +kernel
theorem dX11_gone_34 : decode cX11_gone 34 = .ok (.getfield 13, 3) := by decide +kernel
theorem dX11_gone_37 : decode cX11_gone 37 = .ok (.invokestatic 136, 3) := by decide +kernel
theorem dX11_gone_40 : decode cX11_gone 40 = .ok (.iconst (-1), 1) := by decide +kernel
theorem dX11_gone_41 : decode cX11_gone 41 = .ok (.ixor, 1) := by decide +kernel
theorem dX11_gone_42 : decode cX11_gone 42 = .ok (.iand, 1) := by decide +kernel
theorem dX11_gone_43 : decode cX11_gone 43 = .ok (.ireturn, 1) := by decide +kernel
set_option maxRecDepth 20000 in
theorem ggX11_goesIn_X11_isHere : GoodIn wsX11_goesIn wsX11_isHere := goodIn_r _ [5, 6, 7, 4, 8] (by decide +kernel) (by decide +kernel)
set_option maxRecDepth 20000 in
theorem gX11_goesIn_X11_isHere : GoodIn wsX11_goesIn (va_wsS RX11 52 yX11_isHere wsX11_isHere) := goodIn_app (goodIn_of _ (by decide +kernel)) ggX11_goesIn_X11_isHere
set_option maxRecDepth 20000 in
theorem ggX11_goesIn_X11_week : GoodIn wsX11_goesIn wsX11_week := goodIn_r _ [11, 12, 13, 4, 14, 6, 7, 8, 2, 3, 5, 15, 16, 17, 18, 19, 20, 21, 22, 23, 24, 25, 26, 27, 28, 29, 30, 31, 32] (by decide +kernel) (by decide +kernel)
set_option maxRecDepth 20000 in
theorem gX11_goesIn_X11_week : GoodIn wsX11_goesIn (va_wsS RX11 80 yX11_week wsX11_week) := goodIn_app (goodIn_of _ (by decide +kernel)) ggX11_goesIn_X11_week
theorem dX11_goesIn_0 : decode cX11_goesIn 0 = .ok (.iconst 0, 1) := by decide +kernel
theorem dX11_goesIn_1 : decode cX11_goesIn 1 = .ok (.istore_n 2, 1) := by decide +kernel
theorem dX11_goesIn_2 : decode cX11_goesIn 2 = .ok (.iload_n 2, 1) := by decide +kernel
theorem dX11_goesIn_3 : decode cX11_goesIn 3 = .ok (.bipush 99, 2) := by decide +kernel
theorem dX11_goesIn_5 : decode cX11_goesIn 5 = .ok (.if_icmp .gt 29, 3) := by decide +kernel
theorem dX11_goesIn_8 : decode cX11_goesIn 8 = .ok (.aload_n 0, 1) := by decide +kernel
theorem dX11_goesIn_9 : decode cX11_goesIn 9 = .ok (.getfield 13, 3) := by decide +kernel
theorem dX11_goesIn_12 : decode cX11_goesIn 12 = .ok (.iload_n 1, 1) := by decide +kernel
theorem dX11_goesIn_13 : decode cX11_goesIn 13 = .ok (.invokestatic 52, 3) := by decide +kernel
theorem dX11_goesIn_16 : decode cX11_goesIn 16 = .ok (.ifCond .ne 5, 3) := by decide +kernel
theorem dX11_goesIn_19 : decode cX11_goesIn 19 = .ok (.iload_n 2, 1) := by decide +kernel
theorem dX11_goesIn_20 : decode cX11_goesIn 20 = .ok (.ireturn, 1) := by decide +kernel
theorem dX11_goesIn_21 : decode cX11_goesIn 21 = .ok (.aload_n 0, 1) := by decide +kernel
theorem dX11_goesIn_22 : decode cX11_goesIn 22 = .ok (.getfield 13, 3) := by decide +kernel
theorem dX11_goesIn_25 : decode cX11_goesIn 25 = .ok (.invokestatic 80, 3) := by decide +kernel
theorem dX11_goesIn_28 : decode cX11_goesIn 28 = .ok (.iinc 2 1, 3) := by decide +kernel
theorem dX11_goesIn_31 : decode cX11_goesIn 31 = .ok (.goto (-29), 3) := by decide +kernel
theorem dX11_goesIn_34 : decode cX11_goesIn 34 = .ok (.bipush (-9), 2) := by decide +kernel
theorem dX11_goesIn_36 : decode cX11_goesIn 36 = .ok (.ireturn, 1) := by decide +kernel
set_option maxRecDepth 20000 in
theorem ggX11_goesOf_X11_copies : GoodIn wsX11_goesOf wsX11_copies := goodIn_r _ [6] (by decide +kernel) (by decide +kernel)
set_option maxRecDepth 20000 in
theorem gX11_goesOf_X11_copies : GoodIn wsX11_goesOf (va_wsS RX11 125 yX11_copies wsX11_copies) := goodIn_app (goodIn_of _ (by decide +kernel)) ggX11_goesOf_X11_copies
set_option maxRecDepth 20000 in
theorem ggX11_goesOf_X11_goesIn : GoodIn wsX11_goesOf wsX11_goesIn := goodIn_r _ [10, 2, 11, 12, 5, 13, 14, 15, 16, 17, 18, 19, 20, 21, 22, 23, 24, 25, 26, 27, 28, 29, 30, 31, 32, 33, 34, 35, 36, 37, 38, 39, 40, 41, 42, 43, 44, 45, 46, 47, 48, 49, 50, 51, 52, 53] (by decide +kernel) (by decide +kernel)
set_option maxRecDepth 20000 in
theorem gX11_goesOf_X11_goesIn : GoodIn wsX11_goesOf (wsV RX11 146 RX11 yX11_goesIn wsX11_goesIn) := goodIn_app (goodIn_of _ (by decide +kernel)) ggX11_goesOf_X11_goesIn
theorem dX11_goesOf_0 : decode cX11_goesOf 0 = .ok (.aload_n 0, 1) := by decide +kernel
theorem dX11_goesOf_1 : decode cX11_goesOf 1 = .ok (.getfield 9, 3) := by decide +kernel
theorem dX11_goesOf_4 : decode cX11_goesOf 4 = .ok (.aload_n 0, 1) := by decide +kernel
theorem dX11_goesOf_5 : decode cX11_goesOf 5 = .ok (.getfield 13, 3) := by decide +kernel
theorem dX11_goesOf_8 : decode cX11_goesOf 8 = .ok (.invokestatic 125, 3) := by decide +kernel
theorem dX11_goesOf_11 : decode cX11_goesOf 11 = .ok (.aload_n 0, 1) := by decide +kernel
theorem dX11_goesOf_12 : decode cX11_goesOf 12 = .ok (.iload_n 1, 1) := by decide +kernel
theorem dX11_goesOf_13 : decode cX11_goesOf 13 = .ok (.invokevirtual 146, 3) := by decide +kernel
theorem dX11_goesOf_16 : decode cX11_goesOf 16 = .ok (.ireturn, 1) := by decide +kernel
set_option maxRecDepth 20000 in
theorem ggX11_goes_X11_isOne : GoodIn wsX11_goes wsX11_isOne := goodIn_r _ [5, 6, 7, 8, 4, 9, 57, 58, 59, 60, 61, 62, 63, 64, 65, 66, 67, 68, 69] (by decide +kernel) (by decide +kernel)
set_option maxRecDepth 20000 in
theorem gX11_goes_X11_isOne : GoodIn wsX11_goes (wsV RX11 44 RX11 yX11_isOne wsX11_isOne) := goodIn_app (goodIn_of _ (by decide +kernel)) ggX11_goes_X11_isOne
set_option maxRecDepth 20000 in
theorem ggX11_goes_X11_goesOf : GoodIn wsX11_goes wsX11_goesOf := goodIn_r _ [13, 6, 14, 15, 16, 4, 17, 18, 19, 20, 21, 22, 23, 24, 25, 26, 27, 28, 29, 30, 31, 32, 33, 34, 35, 36, 37, 38, 39, 40, 41, 42, 43, 44, 45, 46, 47, 48, 49, 50, 51, 57, 58, 59, 60, 61, 62, 63, 64, 65, 66, 67, 68, 69] (by decide +kernel) (by decide +kernel)
set_option maxRecDepth 20000 in
theorem gX11_goes_X11_goesOf : GoodIn wsX11_goes (wsV RX11 149 RX11 yX11_goesOf wsX11_goesOf) := goodIn_app (goodIn_of _ (by decide +kernel)) ggX11_goes_X11_goesOf
set_option maxRecDepth 20000 in
theorem ggX11_goes_X11_no : GoodIn wsX11_goes wsX11_no := goodIn_r _ [55, 56, 57, 58, 59, 60, 61, 62, 63, 64, 65, 66, 67, 68, 69] (by decide +kernel) (by decide +kernel)
set_option maxRecDepth 20000 in
theorem gX11_goes_X11_no : GoodIn wsX11_goes (wsV RX11 36 RX11 yX11_no wsX11_no) := goodIn_app (goodIn_of _ (by decide +kernel)) ggX11_goes_X11_no
theorem dX11_goes_0 : decode cX11_goes 0 = .ok (.aload_n 0, 1) := by decide +kernel
theorem dX11_goes_1 : decode cX11_goes 1 = .ok (.iload_n 1, 1) := by decide +kernel
theorem dX11_goes_2 : decode cX11_goes 2 = .ok (.invokevirtual 44, 3) := by decide +kernel
theorem dX11_goes_5 : decode cX11_goes 5 = .ok (.ifCond .eq 11, 3) := by decide +kernel
theorem dX11_goes_8 : decode cX11_goes 8 = .ok (.aload_n 0, 1) := by decide +kernel
theorem dX11_goes_9 : decode cX11_goes 9 = .ok (.iload_n 1, 1) := by decide +kernel
theorem dX11_goes_10 : decode cX11_goes 10 = .ok (.invokevirtual 149, 3) := by decide +kernel
theorem dX11_goes_13 : decode cX11_goes 13 = .ok (.goto 8, 3) := by decide +kernel
theorem dX11_goes_16 : decode cX11_goes 16 = .ok (.aload_n 0, 1) := by decide +kernel
theorem dX11_goes_17 : decode cX11_goes 17 = .ok (.iconst (-1), 1) := by decide +kernel
theorem dX11_goes_18 : decode cX11_goes 18 = .ok (.invokevirtual 36, 3) := by decide +kernel
theorem dX11_goes_21 : decode cX11_goes 21 = .ok (.ireturn, 1) := by decide +kernel
set_option maxRecDepth 20000 in
theorem ggX11_emptyBehind_X11_copies : GoodIn wsX11_emptyBehind wsX11_copies := goodIn_r _ [6] (by decide +kernel) (by decide +kernel)
set_option maxRecDepth 20000 in
theorem gX11_emptyBehind_X11_copies : GoodIn wsX11_emptyBehind (va_wsS RX11 125 yX11_copies wsX11_copies) := goodIn_app (goodIn_of _ (by decide +kernel)) ggX11_emptyBehind_X11_copies
set_option maxRecDepth 20000 in
theorem ggX11_emptyBehind_X11_hereIn : GoodIn wsX11_emptyBehind wsX11_hereIn := goodIn_r _ [9, 10, 11, 5, 12] (by decide +kernel) (by decide +kernel)
set_option maxRecDepth 20000 in
theorem gX11_emptyBehind_X11_hereIn : GoodIn wsX11_emptyBehind (va_wsS RX11 136 yX11_hereIn wsX11_hereIn) := goodIn_app (goodIn_of _ (by decide +kernel)) ggX11_emptyBehind_X11_hereIn
set_option maxRecDepth 20000 in
theorem ggX11_emptyBehind_X11_week : GoodIn wsX11_emptyBehind wsX11_week := goodIn_r _ [15, 16, 17, 5, 18, 10, 11, 12, 19, 20, 21, 22, 23, 24, 25, 26, 27, 28, 29, 30, 31, 32, 33, 34, 35, 36, 37, 38, 39] (by decide +kernel) (by decide +kernel)
set_option maxRecDepth 20000 in
theorem gX11_emptyBehind_X11_week : GoodIn wsX11_emptyBehind (va_wsS RX11 80 yX11_week wsX11_week) := goodIn_app (goodIn_of _ (by decide +kernel)) ggX11_emptyBehind_X11_week
theorem dX11_emptyBehind_0 : decode cX11_emptyBehind 0 = .ok (.aload_n 0, 1) := by decide +kernel
theorem dX11_emptyBehind_1 : decode cX11_emptyBehind 1 = .ok (.getfield 9, 3) := by decide +kernel
theorem dX11_emptyBehind_4 : decode cX11_emptyBehind 4 = .ok (.aload_n 0, 1) := by decide +kernel
theorem dX11_emptyBehind_5 : decode cX11_emptyBehind 5 = .ok (.getfield 13, 3) := by decide +kernel
theorem dX11_emptyBehind_8 : decode cX11_emptyBehind 8 = .ok (.invokestatic 125, 3) := by decide +kernel
theorem dX11_emptyBehind_11 : decode cX11_emptyBehind 11 = .ok (.iconst 0, 1) := by decide +kernel
theorem dX11_emptyBehind_12 : decode cX11_emptyBehind 12 = .ok (.istore_n 1, 1) := by decide +kernel
theorem dX11_emptyBehind_13 : decode cX11_emptyBehind 13 = .ok (.iload_n 1, 1) := by decide +kernel
theorem dX11_emptyBehind_14 : decode cX11_emptyBehind 14 = .ok (.bipush 99, 2) := by decide +kernel
theorem dX11_emptyBehind_16 : decode cX11_emptyBehind 16 = .ok (.if_icmp .gt 28, 3) := by decide +kernel
theorem dX11_emptyBehind_19 : decode cX11_emptyBehind 19 = .ok (.aload_n 0, 1) := by decide +kernel
theorem dX11_emptyBehind_20 : decode cX11_emptyBehind 20 = .ok (.getfield 13, 3) := by decide +kernel
theorem dX11_emptyBehind_23 : decode cX11_emptyBehind 23 = .ok (.invokestatic 136, 3) := by decide +kernel
theorem dX11_emptyBehind_26 : decode cX11_emptyBehind 26 = .ok (.ifCond .ne 5, 3) := by decide +kernel
theorem dX11_emptyBehind_29 : decode cX11_emptyBehind 29 = .ok (.iload_n 1, 1) := by decide +kernel
theorem dX11_emptyBehind_30 : decode cX11_emptyBehind 30 = .ok (.ireturn, 1) := by decide +kernel
theorem dX11_emptyBehind_31 : decode cX11_emptyBehind 31 = .ok (.aload_n 0, 1) := by decide +kernel
theorem dX11_emptyBehind_32 : decode cX11_emptyBehind 32 = .ok (.getfield 13, 3) := by decide +kernel
theorem dX11_emptyBehind_35 : decode cX11_emptyBehind 35 = .ok (.invokestatic 80, 3) := by decide +kernel
theorem dX11_emptyBehind_38 : decode cX11_emptyBehind 38 = .ok (.iinc 1 1, 3) := by decide +kernel
theorem dX11_emptyBehind_41 : decode cX11_emptyBehind 41 = .ok (.goto (-28), 3) := by decide +kernel
theorem dX11_emptyBehind_44 : decode cX11_emptyBehind 44 = .ok (.bipush (-9), 2) := by decide +kernel
theorem dX11_emptyBehind_46 : decode cX11_emptyBehind 46 = .ok (.ireturn, 1) := by decide +kernel
set_option maxRecDepth 20000 in
theorem ggX11_next_X11_isIn : GoodIn wsX11_next wsX11_isIn := goodIn_r _ [6] (by decide +kernel) (by decide +kernel)
set_option maxRecDepth 20000 in
theorem gX11_next_X11_isIn : GoodIn wsX11_next (va_wsS RX11 40 yX11_isIn wsX11_isIn) := goodIn_app (goodIn_of _ (by decide +kernel)) ggX11_next_X11_isIn
set_option maxRecDepth 20000 in
theorem ggX11_next_X11_no : GoodIn wsX11_next wsX11_no := goodIn_r _ [10, 11, 61, 62, 63, 64, 65, 66, 67, 68, 69, 70, 71, 72, 73] (by decide +kernel) (by decide +kernel)
set_option maxRecDepth 20000 in
theorem gX11_next_X11_no : GoodIn wsX11_next (wsV RX11 36 RX11 yX11_no wsX11_no) := goodIn_app (goodIn_of _ (by decide +kernel)) ggX11_next_X11_no
set_option maxRecDepth 20000 in
theorem ggX11_next_X11_emptyBehind : GoodIn wsX11_next wsX11_emptyBehind := goodIn_r _ [15, 1, 16, 17, 18, 5, 19, 20, 21, 22, 23, 24, 25, 26, 27, 28, 29, 30, 31, 32, 33, 34, 35, 36, 37, 38, 39, 40, 41, 42, 43, 44, 45, 46, 47, 48, 49, 50, 51, 52, 61, 62, 63, 64, 65, 66, 67, 68, 69, 70, 71, 72, 73] (by decide +kernel) (by decide +kernel)
set_option maxRecDepth 20000 in
theorem gX11_next_X11_emptyBehind : GoodIn wsX11_next (wsV RX11 152 RX11 yX11_emptyBehind wsX11_emptyBehind) := goodIn_app (goodIn_of _ (by decide +kernel)) ggX11_next_X11_emptyBehind
set_option maxRecDepth 20000 in
theorem ggX11_next_X11_isHere : GoodIn wsX11_next wsX11_isHere := goodIn_r _ [34, 23, 24, 5, 25] (by decide +kernel) (by decide +kernel)
set_option maxRecDepth 20000 in
theorem gX11_next_X11_isHere : GoodIn wsX11_next (va_wsS RX11 52 yX11_isHere wsX11_isHere) := goodIn_app (goodIn_of _ (by decide +kernel)) ggX11_next_X11_isHere
set_option maxRecDepth 20000 in
theorem ggX11_next_X11_goesOf : GoodIn wsX11_next wsX11_goesOf := goodIn_r _ [56, 1, 16, 17, 18, 5, 19, 57, 58, 59, 60, 32, 33, 34, 23, 24, 25, 26, 27, 28, 29, 30, 31, 35, 36, 37, 38, 39, 40, 41, 42, 43, 44, 45, 46, 47, 48, 49, 50, 51, 52, 61, 62, 63, 64, 65, 66, 67, 68, 69, 70, 71, 72, 73] (by decide +kernel) (by decide +kernel)
set_option maxRecDepth 20000 in
theorem gX11_next_X11_goesOf : GoodIn wsX11_next (wsV RX11 149 RX11 yX11_goesOf wsX11_goesOf) := goodIn_app (goodIn_of _ (by decide +kernel)) ggX11_next_X11_goesOf
theorem dX11_next_0 : decode cX11_next 0 = .ok (.iload_n 1, 1) := by decide +kernel
theorem dX11_next_1 : decode cX11_next 1 = .ok (.iconst 0, 1) := by decide +kernel
theorem dX11_next_2 : decode cX11_next 2 = .ok (.iconst 3, 1) := by decide +kernel
theorem dX11_next_3 : decode cX11_next 3 = .ok (.invokestatic 40, 3) := by decide +kernel
theorem dX11_next_6 : decode cX11_next 6 = .ok (.ifCond .ne 10, 3) := by decide +kernel
theorem dX11_next_9 : decode cX11_next 9 = .ok (.aload_n 0, 1) := by decide +kernel
theorem dX11_next_10 : decode cX11_next 10 = .ok (.bipush (-2), 2) := by decide +kernel
theorem dX11_next_12 : decode cX11_next 12 = .ok (.invokevirtual 36, 3) := by decide +kernel
theorem dX11_next_15 : decode cX11_next 15 = .ok (.ireturn, 1) := by decide +kernel
theorem dX11_next_16 : decode cX11_next 16 = .ok (.iload_n 1, 1) := by decide +kernel
theorem dX11_next_17 : decode cX11_next 17 = .ok (.iconst 2, 1) := by decide +kernel
theorem dX11_next_18 : decode cX11_next 18 = .ok (.if_icmp .ne 8, 3) := by decide +kernel
theorem dX11_next_21 : decode cX11_next 21 = .ok (.aload_n 0, 1) := by decide +kernel
theorem dX11_next_22 : decode cX11_next 22 = .ok (.invokevirtual 152, 3) := by decide +kernel
theorem dX11_next_25 : decode cX11_next 25 = .ok (.ireturn, 1) := by decide +kernel
theorem dX11_next_26 : decode cX11_next 26 = .ok (.iload_n 1, 1) := by decide +kernel
theorem dX11_next_27 : decode cX11_next 27 = .ok (.iconst 3, 1) := by decide +kernel
theorem dX11_next_28 : decode cX11_next 28 = .ok (.if_icmp .ne 16, 3) := by decide +kernel
theorem dX11_next_31 : decode cX11_next 31 = .ok (.bipush 10, 2) := by decide +kernel
theorem dX11_next_33 : decode cX11_next 33 = .ok (.aload_n 0, 1) := by decide +kernel
theorem dX11_next_34 : decode cX11_next 34 = .ok (.getfield 9, 3) := by decide +kernel
theorem dX11_next_37 : decode cX11_next 37 = .ok (.iconst 1, 1) := by decide +kernel
theorem dX11_next_38 : decode cX11_next 38 = .ok (.iaload, 1) := by decide +kernel
theorem dX11_next_39 : decode cX11_next 39 = .ok (.bipush 10, 2) := by decide +kernel
theorem dX11_next_41 : decode cX11_next 41 = .ok (.irem, 1) := by decide +kernel
theorem dX11_next_42 : decode cX11_next 42 = .ok (.isub, 1) := by decide +kernel
theorem dX11_next_43 : decode cX11_next 43 = .ok (.ireturn, 1) := by decide +kernel
theorem dX11_next_44 : decode cX11_next 44 = .ok (.bipush (-9), 2) := by decide +kernel
theorem dX11_next_46 : decode cX11_next 46 = .ok (.istore_n 2, 1) := by decide +kernel
theorem dX11_next_47 : decode cX11_next 47 = .ok (.ldc 155, 2) := by decide +kernel
theorem dX11_next_49 : decode cX11_next 49 = .ok (.istore_n 3, 1) := by decide +kernel
theorem dX11_next_50 : decode cX11_next 50 = .ok (.iconst 0, 1) := by decide +kernel
theorem dX11_next_51 : decode cX11_next 51 = .ok (.istore 4, 2) := by decide +kernel
theorem dX11_next_53 : decode cX11_next 53 = .ok (.iload 4, 2) := by decide +kernel
theorem dX11_next_55 : decode cX11_next 55 = .ok (.aload_n 0, 1) := by decide +kernel
theorem dX11_next_56 : decode cX11_next 56 = .ok (.getfield 9, 3) := by decide +kernel
theorem dX11_next_59 : decode cX11_next 59 = .ok (.iconst 0, 1) := by decide +kernel
theorem dX11_next_60 : decode cX11_next 60 = .ok (.iaload, 1) := by decide +kernel
theorem dX11_next_61 : decode cX11_next 61 = .ok (.if_icmp .ge 54, 3) := by decide +kernel
theorem dX11_next_64 : decode cX11_next 64 = .ok (.aload_n 0, 1) := by decide +kernel
theorem dX11_next_65 : decode cX11_next 65 = .ok (.getfield 9, 3) := by decide +kernel
theorem dX11_next_68 : decode cX11_next 68 = .ok (.iload 4, 2) := by decide +kernel
theorem dX11_next_70 : decode cX11_next 70 = .ok (.invokestatic 52, 3) := by decide +kernel
theorem dX11_next_73 : decode cX11_next 73 = .ok (.ifCond .eq 12, 3) := by decide +kernel
theorem dX11_next_76 : decode cX11_next 76 = .ok (.aload_n 0, 1) := by decide +kernel
theorem dX11_next_77 : decode cX11_next 77 = .ok (.iload 4, 2) := by decide +kernel
theorem dX11_next_79 : decode cX11_next 79 = .ok (.invokevirtual 149, 3) := by decide +kernel
theorem dX11_next_82 : decode cX11_next 82 = .ok (.goto 5, 3) := by decide +kernel
theorem dX11_next_85 : decode cX11_next 85 = .ok (.bipush (-9), 2) := by decide +kernel
theorem dX11_next_87 : decode cX11_next 87 = .ok (.istore 5, 2) := by decide +kernel
theorem dX11_next_89 : decode cX11_next 89 = .ok (.iload 5, 2) := by decide +kernel
theorem dX11_next_91 : decode cX11_next 91 = .ok (.ifCond .lt 18, 3) := by decide +kernel
theorem dX11_next_94 : decode cX11_next 94 = .ok (.iload 5, 2) := by decide +kernel
theorem dX11_next_96 : decode cX11_next 96 = .ok (.iload_n 3, 1) := by decide +kernel
theorem dX11_next_97 : decode cX11_next 97 = .ok (.if_icmp .lt 6, 3) := by decide +kernel
theorem dX11_next_100 : decode cX11_next 100 = .ok (.goto 9, 3) := by decide +kernel
theorem dX11_next_103 : decode cX11_next 103 = .ok (.iload 4, 2) := by decide +kernel
theorem dX11_next_105 : decode cX11_next 105 = .ok (.istore_n 2, 1) := by decide +kernel
theorem dX11_next_106 : decode cX11_next 106 = .ok (.iload 5, 2) := by decide +kernel
theorem dX11_next_108 : decode cX11_next 108 = .ok (.istore_n 3, 1) := by decide +kernel
theorem dX11_next_109 : decode cX11_next 109 = .ok (.iinc 4 1, 3) := by decide +kernel
theorem dX11_next_112 : decode cX11_next 112 = .ok (.goto (-59), 3) := by decide +kernel
theorem dX11_next_115 : decode cX11_next 115 = .ok (.iload_n 2, 1) := by decide +kernel
theorem dX11_next_116 : decode cX11_next 116 = .ok (.ifCond .lt 7, 3) := by decide +kernel
theorem dX11_next_119 : decode cX11_next 119 = .ok (.iload_n 1, 1) := by decide +kernel
theorem dX11_next_120 : decode cX11_next 120 = .ok (.ifCond .ne 7, 3) := by decide +kernel
theorem dX11_next_123 : decode cX11_next 123 = .ok (.iload_n 2, 1) := by decide +kernel
theorem dX11_next_124 : decode cX11_next 124 = .ok (.goto 4, 3) := by decide +kernel
theorem dX11_next_127 : decode cX11_next 127 = .ok (.iload_n 3, 1) := by decide +kernel
theorem dX11_next_128 : decode cX11_next 128 = .ok (.ireturn, 1) := by decide +kernel
set_option maxRecDepth 20000 in
theorem ggX11_least_X11_isIn : GoodIn wsX11_least wsX11_isIn := goodIn_r _ [5] (by decide +kernel) (by decide +kernel)
set_option maxRecDepth 20000 in
theorem gX11_least_X11_isIn : GoodIn wsX11_least (va_wsS RX11 40 yX11_isIn wsX11_isIn) := goodIn_app (goodIn_of _ (by decide +kernel)) ggX11_least_X11_isIn
set_option maxRecDepth 20000 in
theorem ggX11_least_X11_no : GoodIn wsX11_least wsX11_no := goodIn_r _ [9, 10, 29, 30, 31, 32, 33, 34, 35, 36, 37, 38, 39, 40, 41] (by decide +kernel) (by decide +kernel)
set_option maxRecDepth 20000 in
theorem gX11_least_X11_no : GoodIn wsX11_least (wsV RX11 36 RX11 yX11_no wsX11_no) := goodIn_app (goodIn_of _ (by decide +kernel)) ggX11_least_X11_no
set_option maxRecDepth 20000 in
theorem ggX11_least_X11_leastIn : GoodIn wsX11_least wsX11_leastIn := goodIn_r _ [13, 14, 15, 4, 16, 17, 18, 19, 20, 21, 22, 23, 24, 25, 26, 27, 28] (by decide +kernel) (by decide +kernel)
set_option maxRecDepth 20000 in
theorem gX11_least_X11_leastIn : GoodIn wsX11_least (va_wsS RX11 72 yX11_leastIn wsX11_leastIn) := goodIn_app (goodIn_of _ (by decide +kernel)) ggX11_least_X11_leastIn
set_option maxRecDepth 20000 in
theorem ggX11_least_X11_isHere : GoodIn wsX11_least wsX11_isHere := goodIn_r _ [16, 17, 18, 4, 19] (by decide +kernel) (by decide +kernel)
set_option maxRecDepth 20000 in
theorem gX11_least_X11_isHere : GoodIn wsX11_least (va_wsS RX11 52 yX11_isHere wsX11_isHere) := goodIn_app (goodIn_of _ (by decide +kernel)) ggX11_least_X11_isHere
set_option maxRecDepth 20000 in
theorem ggX11_least_X11_knownIn : GoodIn wsX11_least wsX11_knownIn := goodIn_r _ [25, 14, 15, 4, 16, 17, 18, 19, 26, 27, 28] (by decide +kernel) (by decide +kernel)
set_option maxRecDepth 20000 in
theorem gX11_least_X11_knownIn : GoodIn wsX11_least (va_wsS RX11 62 yX11_knownIn wsX11_knownIn) := goodIn_app (goodIn_of _ (by decide +kernel)) ggX11_least_X11_knownIn
theorem dX11_least_0 : decode cX11_least 0 = .ok (.iload_n 1, 1) := by decide +kernel
theorem dX11_least_1 : decode cX11_least 1 = .ok (.iconst 0, 1) := by decide +kernel
theorem dX11_least_2 : decode cX11_least 2 = .ok (.iconst 1, 1) := by decide +kernel
theorem dX11_least_3 : decode cX11_least 3 = .ok (.invokestatic 40, 3) := by decide +kernel
theorem dX11_least_6 : decode cX11_least 6 = .ok (.ifCond .ne 10, 3) := by decide +kernel
theorem dX11_least_9 : decode cX11_least 9 = .ok (.aload_n 0, 1) := by decide +kernel
theorem dX11_least_10 : decode cX11_least 10 = .ok (.bipush (-2), 2) := by decide +kernel
theorem dX11_least_12 : decode cX11_least 12 = .ok (.invokevirtual 36, 3) := by decide +kernel
theorem dX11_least_15 : decode cX11_least 15 = .ok (.ireturn, 1) := by decide +kernel
theorem dX11_least_16 : decode cX11_least 16 = .ok (.iload_n 1, 1) := by decide +kernel
theorem dX11_least_17 : decode cX11_least 17 = .ok (.ifCond .ne 11, 3) := by decide +kernel
theorem dX11_least_20 : decode cX11_least 20 = .ok (.aload_n 0, 1) := by decide +kernel
theorem dX11_least_21 : decode cX11_least 21 = .ok (.getfield 9, 3) := by decide +kernel
theorem dX11_least_24 : decode cX11_least 24 = .ok (.invokestatic 72, 3) := by decide +kernel
theorem dX11_least_27 : decode cX11_least 27 = .ok (.ireturn, 1) := by decide +kernel
theorem dX11_least_28 : decode cX11_least 28 = .ok (.bipush (-9), 2) := by decide +kernel
theorem dX11_least_30 : decode cX11_least 30 = .ok (.istore_n 2, 1) := by decide +kernel
theorem dX11_least_31 : decode cX11_least 31 = .ok (.iconst 0, 1) := by decide +kernel
theorem dX11_least_32 : decode cX11_least 32 = .ok (.istore_n 3, 1) := by decide +kernel
theorem dX11_least_33 : decode cX11_least 33 = .ok (.iload_n 3, 1) := by decide +kernel
theorem dX11_least_34 : decode cX11_least 34 = .ok (.aload_n 0, 1) := by decide +kernel
theorem dX11_least_35 : decode cX11_least 35 = .ok (.getfield 9, 3) := by decide +kernel
theorem dX11_least_38 : decode cX11_least 38 = .ok (.iconst 0, 1) := by decide +kernel
theorem dX11_least_39 : decode cX11_least 39 = .ok (.iaload, 1) := by decide +kernel
theorem dX11_least_40 : decode cX11_least 40 = .ok (.if_icmp .ge 45, 3) := by decide +kernel
theorem dX11_least_43 : decode cX11_least 43 = .ok (.aload_n 0, 1) := by decide +kernel
theorem dX11_least_44 : decode cX11_least 44 = .ok (.getfield 9, 3) := by decide +kernel
theorem dX11_least_47 : decode cX11_least 47 = .ok (.iload_n 3, 1) := by decide +kernel
theorem dX11_least_48 : decode cX11_least 48 = .ok (.invokestatic 52, 3) := by decide +kernel
theorem dX11_least_51 : decode cX11_least 51 = .ok (.ifCond .eq 28, 3) := by decide +kernel
theorem dX11_least_54 : decode cX11_least 54 = .ok (.iload_n 2, 1) := by decide +kernel
theorem dX11_least_55 : decode cX11_least 55 = .ok (.ifCond .lt 22, 3) := by decide +kernel
theorem dX11_least_58 : decode cX11_least 58 = .ok (.aload_n 0, 1) := by decide +kernel
theorem dX11_least_59 : decode cX11_least 59 = .ok (.getfield 9, 3) := by decide +kernel
theorem dX11_least_62 : decode cX11_least 62 = .ok (.iload_n 3, 1) := by decide +kernel
theorem dX11_least_63 : decode cX11_least 63 = .ok (.invokestatic 62, 3) := by decide +kernel
theorem dX11_least_66 : decode cX11_least 66 = .ok (.aload_n 0, 1) := by decide +kernel
theorem dX11_least_67 : decode cX11_least 67 = .ok (.getfield 9, 3) := by decide +kernel
theorem dX11_least_70 : decode cX11_least 70 = .ok (.iload_n 2, 1) := by decide +kernel
theorem dX11_least_71 : decode cX11_least 71 = .ok (.invokestatic 62, 3) := by decide +kernel
theorem dX11_least_74 : decode cX11_least 74 = .ok (.if_icmp .le 5, 3) := by decide +kernel
theorem dX11_least_77 : decode cX11_least 77 = .ok (.iload_n 3, 1) := by decide +kernel
theorem dX11_least_78 : decode cX11_least 78 = .ok (.istore_n 2, 1) := by decide +kernel
theorem dX11_least_79 : decode cX11_least 79 = .ok (.iinc 3 1, 3) := by decide +kernel
theorem dX11_least_82 : decode cX11_least 82 = .ok (.goto (-49), 3) := by decide +kernel
theorem dX11_least_85 : decode cX11_least 85 = .ok (.iload_n 2, 1) := by decide +kernel
theorem dX11_least_86 : decode cX11_least 86 = .ok (.ireturn, 1) := by decide +kernel
theorem dX11_orNever_0 : decode cX11_orNever 0 = .ok (.iload_n 0, 1) := by decide +kernel
theorem dX11_orNever_1 : decode cX11_orNever 1 = .ok (.ifCond .ge 8, 3) := by decide +kernel
theorem dX11_orNever_4 : decode cX11_orNever 4 = .ok (.bipush 100, 2) := by decide +kernel
theorem dX11_orNever_6 : decode cX11_orNever 6 = .ok (.goto 4, 3) := by decide +kernel
theorem dX11_orNever_9 : decode cX11_orNever 9 = .ok (.iload_n 0, 1) := by decide +kernel
theorem dX11_orNever_10 : decode cX11_orNever 10 = .ok (.ireturn, 1) := by decide +kernel
set_option maxRecDepth 20000 in
theorem ggX11_wrongOne_X11_isOne : GoodIn wsX11_wrongOne wsX11_isOne := goodIn_r _ [6, 1, 7, 8, 5, 9, 16, 17, 18, 19, 20, 21, 22, 23, 24, 25, 26, 27, 28] (by decide +kernel) (by decide +kernel)
set_option maxRecDepth 20000 in
theorem gX11_wrongOne_X11_isOne : GoodIn wsX11_wrongOne (wsV RX11 44 RX11 yX11_isOne wsX11_isOne) := goodIn_app (goodIn_of _ (by decide +kernel)) ggX11_wrongOne_X11_isOne
set_option maxRecDepth 20000 in
theorem ggX11_wrongOne_X11_isHere : GoodIn wsX11_wrongOne wsX11_isHere := goodIn_r _ [12, 13, 14, 5, 15] (by decide +kernel) (by decide +kernel)
set_option maxRecDepth 20000 in
theorem gX11_wrongOne_X11_isHere : GoodIn wsX11_wrongOne (va_wsS RX11 52 yX11_isHere wsX11_isHere) := goodIn_app (goodIn_of _ (by decide +kernel)) ggX11_wrongOne_X11_isHere
theorem dX11_wrongOne_0 : decode cX11_wrongOne 0 = .ok (.aload_n 0, 1) := by decide +kernel
theorem dX11_wrongOne_1 : decode cX11_wrongOne 1 = .ok (.iload_n 1, 1) := by decide +kernel
theorem dX11_wrongOne_2 : decode cX11_wrongOne 2 = .ok (.invokevirtual 44, 3) := by decide +kernel
theorem dX11_wrongOne_5 : decode cX11_wrongOne 5 = .ok (.ifCond .ne 7, 3) := by decide +kernel
theorem dX11_wrongOne_8 : decode cX11_wrongOne 8 = .ok (.iconst (-1), 1) := by decide +kernel
theorem dX11_wrongOne_9 : decode cX11_wrongOne 9 = .ok (.goto 20, 3) := by decide +kernel
theorem dX11_wrongOne_12 : decode cX11_wrongOne 12 = .ok (.aload_n 0, 1) := by decide +kernel
theorem dX11_wrongOne_13 : decode cX11_wrongOne 13 = .ok (.getfield 9, 3) := by decide +kernel
theorem dX11_wrongOne_16 : decode cX11_wrongOne 16 = .ok (.iload_n 1, 1) := by decide +kernel
theorem dX11_wrongOne_17 : decode cX11_wrongOne 17 = .ok (.invokestatic 52, 3) := by decide +kernel
theorem dX11_wrongOne_20 : decode cX11_wrongOne 20 = .ok (.ifCond .eq 7, 3) := by decide +kernel
theorem dX11_wrongOne_23 : decode cX11_wrongOne 23 = .ok (.iconst 0, 1) := by decide +kernel
theorem dX11_wrongOne_24 : decode cX11_wrongOne 24 = .ok (.goto 5, 3) := by decide +kernel
theorem dX11_wrongOne_27 : decode cX11_wrongOne 27 = .ok (.bipush (-3), 2) := by decide +kernel
theorem dX11_wrongOne_29 : decode cX11_wrongOne 29 = .ok (.ireturn, 1) := by decide +kernel
set_option maxRecDepth 20000 in
theorem ggX11_speak_X11_wrongOne : GoodIn wsX11_speak wsX11_wrongOne := goodIn_r _ [7, 1, 8, 9, 10, 6, 11, 12, 13, 14, 15, 16, 17, 18, 19, 20, 67, 68, 69, 70, 71, 72, 73, 74, 75, 76, 77, 78, 79] (by decide +kernel) (by decide +kernel)
set_option maxRecDepth 20000 in
theorem gX11_speak_X11_wrongOne : GoodIn wsX11_speak (wsV RX11 156 RX11 yX11_wrongOne wsX11_wrongOne) := goodIn_app (goodIn_of _ (by decide +kernel)) ggX11_speak_X11_wrongOne
set_option maxRecDepth 20000 in
theorem ggX11_speak_X11_no : GoodIn wsX11_speak wsX11_no := goodIn_r _ [24, 25, 67, 68, 69, 70, 71, 72, 73, 74, 75, 76, 77, 78, 79] (by decide +kernel) (by decide +kernel)
set_option maxRecDepth 20000 in
theorem gX11_speak_X11_no : GoodIn wsX11_speak (wsV RX11 36 RX11 yX11_no wsX11_no) := goodIn_app (goodIn_of _ (by decide +kernel)) ggX11_speak_X11_no
set_option maxRecDepth 20000 in
theorem ggX11_speak_X11_goesOf : GoodIn wsX11_speak wsX11_goesOf := goodIn_r _ [29, 1, 2, 30, 31, 6, 32, 33, 34, 35, 36, 15, 16, 17, 18, 19, 20, 37, 38, 39, 40, 41, 42, 43, 44, 45, 46, 47, 48, 49, 50, 51, 52, 53, 54, 55, 56, 57, 58, 59, 60, 67, 68, 69, 70, 71, 72, 73, 74, 75, 76, 77, 78, 79] (by decide +kernel) (by decide +kernel)
set_option maxRecDepth 20000 in
theorem gX11_speak_X11_goesOf : GoodIn wsX11_speak (wsV RX11 149 RX11 yX11_goesOf wsX11_goesOf) := goodIn_app (goodIn_of _ (by decide +kernel)) ggX11_speak_X11_goesOf
set_option maxRecDepth 20000 in
theorem ggX11_speak_X11_orNever : GoodIn wsX11_speak wsX11_orNever := goodIn_r _ [63] (by decide +kernel) (by decide +kernel)
set_option maxRecDepth 20000 in
theorem gX11_speak_X11_orNever : GoodIn wsX11_speak (va_wsS RX11 159 yX11_orNever wsX11_orNever) := goodIn_app (goodIn_of _ (by decide +kernel)) ggX11_speak_X11_orNever
set_option maxRecDepth 20000 in
theorem ggX11_speak_X11_isHere : GoodIn wsX11_speak wsX11_isHere := goodIn_r _ [17, 18, 19, 6, 20] (by decide +kernel) (by decide +kernel)
set_option maxRecDepth 20000 in
theorem gX11_speak_X11_isHere : GoodIn wsX11_speak (va_wsS RX11 52 yX11_isHere wsX11_isHere) := goodIn_app (goodIn_of _ (by decide +kernel)) ggX11_speak_X11_isHere
set_option maxRecDepth 20000 in
theorem ggX11_speak_X11_copies : GoodIn wsX11_speak wsX11_copies := goodIn_r _ [32] (by decide +kernel) (by decide +kernel)
set_option maxRecDepth 20000 in
theorem gX11_speak_X11_copies : GoodIn wsX11_speak (va_wsS RX11 125 yX11_copies wsX11_copies) := goodIn_app (goodIn_of _ (by decide +kernel)) ggX11_speak_X11_copies
set_option maxRecDepth 20000 in
theorem ggX11_speak_X11_speaksIn : GoodIn wsX11_speak wsX11_speaksIn := goodIn_r _ [66, 43, 44, 6, 45, 46, 47, 48] (by decide +kernel) (by decide +kernel)
set_option maxRecDepth 20000 in
theorem gX11_speak_X11_speaksIn : GoodIn wsX11_speak (va_wsS RX11 112 yX11_speaksIn wsX11_speaksIn) := goodIn_app (goodIn_of _ (by decide +kernel)) ggX11_speak_X11_speaksIn
set_option maxRecDepth 20000 in
theorem ggX11_speak_X11_goesIn : GoodIn wsX11_speak wsX11_goesIn := goodIn_r _ [36, 2, 15, 16, 6, 17, 18, 19, 20, 37, 38, 39, 40, 41, 42, 43, 44, 45, 46, 47, 48, 49, 50, 51, 52, 53, 54, 55, 56, 57, 58, 59, 60, 67, 68, 69, 70, 71, 72, 73, 74, 75, 76, 77, 78, 79] (by decide +kernel) (by decide +kernel)
set_option maxRecDepth 20000 in
theorem gX11_speak_X11_goesIn : GoodIn wsX11_speak (wsV RX11 146 RX11 yX11_goesIn wsX11_goesIn) := goodIn_app (goodIn_of _ (by decide +kernel)) ggX11_speak_X11_goesIn
theorem dX11_speak_0 : decode cX11_speak 0 = .ok (.aload_n 0, 1) := by decide +kernel
theorem dX11_speak_1 : decode cX11_speak 1 = .ok (.iload_n 1, 1) := by decide +kernel
theorem dX11_speak_2 : decode cX11_speak 2 = .ok (.invokevirtual 156, 3) := by decide +kernel
theorem dX11_speak_5 : decode cX11_speak 5 = .ok (.istore_n 2, 1) := by decide +kernel
theorem dX11_speak_6 : decode cX11_speak 6 = .ok (.iload_n 2, 1) := by decide +kernel
theorem dX11_speak_7 : decode cX11_speak 7 = .ok (.ifCond .eq 9, 3) := by decide +kernel
theorem dX11_speak_10 : decode cX11_speak 10 = .ok (.aload_n 0, 1) := by decide +kernel
theorem dX11_speak_11 : decode cX11_speak 11 = .ok (.iload_n 2, 1) := by decide +kernel
theorem dX11_speak_12 : decode cX11_speak 12 = .ok (.invokevirtual 36, 3) := by decide +kernel
theorem dX11_speak_15 : decode cX11_speak 15 = .ok (.ireturn, 1) := by decide +kernel
theorem dX11_speak_16 : decode cX11_speak 16 = .ok (.bipush (-9), 2) := by decide +kernel
theorem dX11_speak_18 : decode cX11_speak 18 = .ok (.istore_n 3, 1) := by decide +kernel
theorem dX11_speak_19 : decode cX11_speak 19 = .ok (.aload_n 0, 1) := by decide +kernel
theorem dX11_speak_20 : decode cX11_speak 20 = .ok (.iload_n 1, 1) := by decide +kernel
theorem dX11_speak_21 : decode cX11_speak 21 = .ok (.invokevirtual 149, 3) := by decide +kernel
theorem dX11_speak_24 : decode cX11_speak 24 = .ok (.invokestatic 159, 3) := by decide +kernel
theorem dX11_speak_27 : decode cX11_speak 27 = .ok (.istore 4, 2) := by decide +kernel
theorem dX11_speak_29 : decode cX11_speak 29 = .ok (.iconst 0, 1) := by decide +kernel
theorem dX11_speak_30 : decode cX11_speak 30 = .ok (.istore 5, 2) := by decide +kernel
theorem dX11_speak_32 : decode cX11_speak 32 = .ok (.iload 5, 2) := by decide +kernel
theorem dX11_speak_34 : decode cX11_speak 34 = .ok (.aload_n 0, 1) := by decide +kernel
theorem dX11_speak_35 : decode cX11_speak 35 = .ok (.getfield 9, 3) := by decide +kernel
theorem dX11_speak_38 : decode cX11_speak 38 = .ok (.iconst 0, 1) := by decide +kernel
theorem dX11_speak_39 : decode cX11_speak 39 = .ok (.iaload, 1) := by decide +kernel
theorem dX11_speak_40 : decode cX11_speak 40 = .ok (.if_icmp .ge 78, 3) := by decide +kernel
theorem dX11_speak_43 : decode cX11_speak 43 = .ok (.iload 5, 2) := by decide +kernel
theorem dX11_speak_45 : decode cX11_speak 45 = .ok (.iload_n 1, 1) := by decide +kernel
theorem dX11_speak_46 : decode cX11_speak 46 = .ok (.if_icmp .eq 66, 3) := by decide +kernel
theorem dX11_speak_49 : decode cX11_speak 49 = .ok (.aload_n 0, 1) := by decide +kernel
theorem dX11_speak_50 : decode cX11_speak 50 = .ok (.getfield 9, 3) := by decide +kernel
theorem dX11_speak_53 : decode cX11_speak 53 = .ok (.iload 5, 2) := by decide +kernel
theorem dX11_speak_55 : decode cX11_speak 55 = .ok (.invokestatic 52, 3) := by decide +kernel
theorem dX11_speak_58 : decode cX11_speak 58 = .ok (.ifCond .ne 6, 3) := by decide +kernel
theorem dX11_speak_61 : decode cX11_speak 61 = .ok (.goto 51, 3) := by decide +kernel
theorem dX11_speak_64 : decode cX11_speak 64 = .ok (.aload_n 0, 1) := by decide +kernel
theorem dX11_speak_65 : decode cX11_speak 65 = .ok (.getfield 9, 3) := by decide +kernel
theorem dX11_speak_68 : decode cX11_speak 68 = .ok (.aload_n 0, 1) := by decide +kernel
theorem dX11_speak_69 : decode cX11_speak 69 = .ok (.getfield 13, 3) := by decide +kernel
theorem dX11_speak_72 : decode cX11_speak 72 = .ok (.invokestatic 125, 3) := by decide +kernel
theorem dX11_speak_75 : decode cX11_speak 75 = .ok (.aload_n 0, 1) := by decide +kernel
theorem dX11_speak_76 : decode cX11_speak 76 = .ok (.getfield 13, 3) := by decide +kernel
theorem dX11_speak_79 : decode cX11_speak 79 = .ok (.iload_n 1, 1) := by decide +kernel
theorem dX11_speak_80 : decode cX11_speak 80 = .ok (.iload 5, 2) := by decide +kernel
theorem dX11_speak_82 : decode cX11_speak 82 = .ok (.invokestatic 112, 3) := by decide +kernel
theorem dX11_speak_85 : decode cX11_speak 85 = .ok (.aload_n 0, 1) := by decide +kernel
theorem dX11_speak_86 : decode cX11_speak 86 = .ok (.iload_n 1, 1) := by decide +kernel
theorem dX11_speak_87 : decode cX11_speak 87 = .ok (.invokevirtual 146, 3) := by decide +kernel
theorem dX11_speak_90 : decode cX11_speak 90 = .ok (.invokestatic 159, 3) := by decide +kernel
theorem dX11_speak_93 : decode cX11_speak 93 = .ok (.istore 6, 2) := by decide +kernel
theorem dX11_speak_95 : decode cX11_speak 95 = .ok (.iload 6, 2) := by decide +kernel
theorem dX11_speak_97 : decode cX11_speak 97 = .ok (.iload 4, 2) := by decide +kernel
theorem dX11_speak_99 : decode cX11_speak 99 = .ok (.if_icmp .gt 6, 3) := by decide +kernel
theorem dX11_speak_102 : decode cX11_speak 102 = .ok (.goto 10, 3) := by decide +kernel
theorem dX11_speak_105 : decode cX11_speak 105 = .ok (.iload 5, 2) := by decide +kernel
theorem dX11_speak_107 : decode cX11_speak 107 = .ok (.istore_n 3, 1) := by decide +kernel
theorem dX11_speak_108 : decode cX11_speak 108 = .ok (.iload 6, 2) := by decide +kernel
theorem dX11_speak_110 : decode cX11_speak 110 = .ok (.istore 4, 2) := by decide +kernel
theorem dX11_speak_112 : decode cX11_speak 112 = .ok (.iinc 5 1, 3) := by decide +kernel
theorem dX11_speak_115 : decode cX11_speak 115 = .ok (.goto (-83), 3) := by decide +kernel
theorem dX11_speak_118 : decode cX11_speak 118 = .ok (.iload_n 3, 1) := by decide +kernel
theorem dX11_speak_119 : decode cX11_speak 119 = .ok (.ireturn, 1) := by decide +kernel
set_option maxRecDepth 20000 in
theorem ggX11_isHereBy_X11_copies : GoodIn wsX11_isHereBy wsX11_copies := goodIn_r _ [6] (by decide +kernel) (by decide +kernel)
set_option maxRecDepth 20000 in
theorem gX11_isHereBy_X11_copies : GoodIn wsX11_isHereBy (va_wsS RX11 125 yX11_copies wsX11_copies) := goodIn_app (goodIn_of _ (by decide +kernel)) ggX11_isHereBy_X11_copies
set_option maxRecDepth 20000 in
theorem ggX11_isHereBy_X11_isHere : GoodIn wsX11_isHereBy wsX11_isHere := goodIn_r _ [9, 10, 11, 5, 12] (by decide +kernel) (by decide +kernel)
set_option maxRecDepth 20000 in
theorem gX11_isHereBy_X11_isHere : GoodIn wsX11_isHereBy (va_wsS RX11 52 yX11_isHere wsX11_isHere) := goodIn_app (goodIn_of _ (by decide +kernel)) ggX11_isHereBy_X11_isHere
set_option maxRecDepth 20000 in
theorem ggX11_isHereBy_X11_speaksIn : GoodIn wsX11_isHereBy wsX11_speaksIn := goodIn_r _ [15, 16, 17, 5, 18, 19, 20, 21] (by decide +kernel) (by decide +kernel)
set_option maxRecDepth 20000 in
theorem gX11_isHereBy_X11_speaksIn : GoodIn wsX11_isHereBy (va_wsS RX11 112 yX11_speaksIn wsX11_speaksIn) := goodIn_app (goodIn_of _ (by decide +kernel)) ggX11_isHereBy_X11_speaksIn
set_option maxRecDepth 20000 in
theorem ggX11_isHereBy_X11_weeksOn : GoodIn wsX11_isHereBy wsX11_weeksOn := goodIn_r _ [24, 25, 26, 5, 27, 28, 29, 30, 10, 11, 12, 7, 8, 9, 16, 17, 18, 19, 20, 21, 31, 32, 33, 34, 35, 36, 37, 38, 39, 40, 41, 42] (by decide +kernel) (by decide +kernel)
set_option maxRecDepth 20000 in
theorem gX11_isHereBy_X11_weeksOn : GoodIn wsX11_isHereBy (va_wsS RX11 119 yX11_weeksOn wsX11_weeksOn) := goodIn_app (goodIn_of _ (by decide +kernel)) ggX11_isHereBy_X11_weeksOn
theorem dX11_isHereBy_0 : decode cX11_isHereBy 0 = .ok (.aload_n 0, 1) := by decide +kernel
theorem dX11_isHereBy_1 : decode cX11_isHereBy 1 = .ok (.getfield 9, 3) := by decide +kernel
theorem dX11_isHereBy_4 : decode cX11_isHereBy 4 = .ok (.aload_n 0, 1) := by decide +kernel
theorem dX11_isHereBy_5 : decode cX11_isHereBy 5 = .ok (.getfield 13, 3) := by decide +kernel
theorem dX11_isHereBy_8 : decode cX11_isHereBy 8 = .ok (.invokestatic 125, 3) := by decide +kernel
theorem dX11_isHereBy_11 : decode cX11_isHereBy 11 = .ok (.iload_n 3, 1) := by decide +kernel
theorem dX11_isHereBy_12 : decode cX11_isHereBy 12 = .ok (.istore 5, 2) := by decide +kernel
theorem dX11_isHereBy_14 : decode cX11_isHereBy 14 = .ok (.iconst 0, 1) := by decide +kernel
theorem dX11_isHereBy_15 : decode cX11_isHereBy 15 = .ok (.istore 6, 2) := by decide +kernel
theorem dX11_isHereBy_17 : decode cX11_isHereBy 17 = .ok (.iload 6, 2) := by decide +kernel
theorem dX11_isHereBy_19 : decode cX11_isHereBy 19 = .ok (.iload_n 2, 1) := by decide +kernel
theorem dX11_isHereBy_20 : decode cX11_isHereBy 20 = .ok (.if_icmp .ge 64, 3) := by decide +kernel
theorem dX11_isHereBy_23 : decode cX11_isHereBy 23 = .ok (.iload 5, 2) := by decide +kernel
theorem dX11_isHereBy_25 : decode cX11_isHereBy 25 = .ok (.bipush 8, 2) := by decide +kernel
theorem dX11_isHereBy_27 : decode cX11_isHereBy 27 = .ok (.irem, 1) := by decide +kernel
theorem dX11_isHereBy_28 : decode cX11_isHereBy 28 = .ok (.istore 7, 2) := by decide +kernel
theorem dX11_isHereBy_30 : decode cX11_isHereBy 30 = .ok (.iload 7, 2) := by decide +kernel
theorem dX11_isHereBy_32 : decode cX11_isHereBy 32 = .ok (.iload_n 1, 1) := by decide +kernel
theorem dX11_isHereBy_33 : decode cX11_isHereBy 33 = .ok (.if_icmp .eq 26, 3) := by decide +kernel
theorem dX11_isHereBy_36 : decode cX11_isHereBy 36 = .ok (.iload 7, 2) := by decide +kernel
theorem dX11_isHereBy_38 : decode cX11_isHereBy 38 = .ok (.aload_n 0, 1) := by decide +kernel
theorem dX11_isHereBy_39 : decode cX11_isHereBy 39 = .ok (.getfield 9, 3) := by decide +kernel
theorem dX11_isHereBy_42 : decode cX11_isHereBy 42 = .ok (.iconst 0, 1) := by decide +kernel
theorem dX11_isHereBy_43 : decode cX11_isHereBy 43 = .ok (.iaload, 1) := by decide +kernel
theorem dX11_isHereBy_44 : decode cX11_isHereBy 44 = .ok (.if_icmp .ge 15, 3) := by decide +kernel
theorem dX11_isHereBy_47 : decode cX11_isHereBy 47 = .ok (.aload_n 0, 1) := by decide +kernel
theorem dX11_isHereBy_48 : decode cX11_isHereBy 48 = .ok (.getfield 9, 3) := by decide +kernel
theorem dX11_isHereBy_51 : decode cX11_isHereBy 51 = .ok (.iload 7, 2) := by decide +kernel
theorem dX11_isHereBy_53 : decode cX11_isHereBy 53 = .ok (.invokestatic 52, 3) := by decide +kernel
theorem dX11_isHereBy_56 : decode cX11_isHereBy 56 = .ok (.ifCond .ne 5, 3) := by decide +kernel
theorem dX11_isHereBy_59 : decode cX11_isHereBy 59 = .ok (.iconst 0, 1) := by decide +kernel
theorem dX11_isHereBy_60 : decode cX11_isHereBy 60 = .ok (.ireturn, 1) := by decide +kernel
theorem dX11_isHereBy_61 : decode cX11_isHereBy 61 = .ok (.aload_n 0, 1) := by decide +kernel
theorem dX11_isHereBy_62 : decode cX11_isHereBy 62 = .ok (.getfield 13, 3) := by decide +kernel
theorem dX11_isHereBy_65 : decode cX11_isHereBy 65 = .ok (.iload_n 1, 1) := by decide +kernel
theorem dX11_isHereBy_66 : decode cX11_isHereBy 66 = .ok (.iload 7, 2) := by decide +kernel
theorem dX11_isHereBy_68 : decode cX11_isHereBy 68 = .ok (.invokestatic 112, 3) := by decide +kernel
theorem dX11_isHereBy_71 : decode cX11_isHereBy 71 = .ok (.iload 5, 2) := by decide +kernel
theorem dX11_isHereBy_73 : decode cX11_isHereBy 73 = .ok (.bipush 8, 2) := by decide +kernel
theorem dX11_isHereBy_75 : decode cX11_isHereBy 75 = .ok (.idiv, 1) := by decide +kernel
theorem dX11_isHereBy_76 : decode cX11_isHereBy 76 = .ok (.istore 5, 2) := by decide +kernel
theorem dX11_isHereBy_78 : decode cX11_isHereBy 78 = .ok (.iinc 6 1, 3) := by decide +kernel
theorem dX11_isHereBy_81 : decode cX11_isHereBy 81 = .ok (.goto (-64), 3) := by decide +kernel
theorem dX11_isHereBy_84 : decode cX11_isHereBy 84 = .ok (.aload_n 0, 1) := by decide +kernel
theorem dX11_isHereBy_85 : decode cX11_isHereBy 85 = .ok (.getfield 13, 3) := by decide +kernel
theorem dX11_isHereBy_88 : decode cX11_isHereBy 88 = .ok (.iload 4, 2) := by decide +kernel
theorem dX11_isHereBy_90 : decode cX11_isHereBy 90 = .ok (.invokestatic 119, 3) := by decide +kernel
theorem dX11_isHereBy_93 : decode cX11_isHereBy 93 = .ok (.aload_n 0, 1) := by decide +kernel
theorem dX11_isHereBy_94 : decode cX11_isHereBy 94 = .ok (.getfield 13, 3) := by decide +kernel
theorem dX11_isHereBy_97 : decode cX11_isHereBy 97 = .ok (.iload_n 1, 1) := by decide +kernel
theorem dX11_isHereBy_98 : decode cX11_isHereBy 98 = .ok (.invokestatic 52, 3) := by decide +kernel
theorem dX11_isHereBy_101 : decode cX11_isHereBy 101 = .ok (.ireturn, 1) := by decide +kernel
set_option maxRecDepth 20000 in
theorem ggX11_fewest_X11_isOne : GoodIn wsX11_fewest wsX11_isOne := goodIn_r _ [6, 1, 7, 8, 5, 9, 62, 63, 64, 65, 66, 67, 68, 69, 70, 71, 72, 73, 74] (by decide +kernel) (by decide +kernel)
set_option maxRecDepth 20000 in
theorem gX11_fewest_X11_isOne : GoodIn wsX11_fewest (wsV RX11 44 RX11 yX11_isOne wsX11_isOne) := goodIn_app (goodIn_of _ (by decide +kernel)) ggX11_fewest_X11_isOne
set_option maxRecDepth 20000 in
theorem ggX11_fewest_X11_wrongBy : GoodIn wsX11_fewest wsX11_wrongBy := goodIn_r _ [12] (by decide +kernel) (by decide +kernel)
set_option maxRecDepth 20000 in
theorem gX11_fewest_X11_wrongBy : GoodIn wsX11_fewest (va_wsS RX11 132 yX11_wrongBy wsX11_wrongBy) := goodIn_app (goodIn_of _ (by decide +kernel)) ggX11_fewest_X11_wrongBy
set_option maxRecDepth 20000 in
theorem ggX11_fewest_X11_isHere : GoodIn wsX11_fewest wsX11_isHere := goodIn_r _ [15, 16, 17, 5, 18] (by decide +kernel) (by decide +kernel)
set_option maxRecDepth 20000 in
theorem gX11_fewest_X11_isHere : GoodIn wsX11_fewest (va_wsS RX11 52 yX11_isHere wsX11_isHere) := goodIn_app (goodIn_of _ (by decide +kernel)) ggX11_fewest_X11_isHere
set_option maxRecDepth 20000 in
theorem ggX11_fewest_X11_no : GoodIn wsX11_fewest wsX11_no := goodIn_r _ [22, 23, 62, 63, 64, 65, 66, 67, 68, 69, 70, 71, 72, 73, 74] (by decide +kernel) (by decide +kernel)
set_option maxRecDepth 20000 in
theorem gX11_fewest_X11_no : GoodIn wsX11_fewest (wsV RX11 36 RX11 yX11_no wsX11_no) := goodIn_app (goodIn_of _ (by decide +kernel)) ggX11_fewest_X11_no
set_option maxRecDepth 20000 in
theorem ggX11_fewest_X11_isHereBy : GoodIn wsX11_fewest wsX11_isHereBy := goodIn_r _ [27, 1, 28, 29, 30, 5, 31, 13, 14, 15, 16, 17, 18, 32, 33, 34, 35, 36, 37, 38, 39, 40, 41, 42, 43, 44, 45, 46, 47, 48, 49, 50, 51, 52, 53, 54, 55, 56, 57, 58, 59, 60, 61, 62, 63, 64, 65, 66, 67, 68, 69, 70, 71, 72, 73, 74] (by decide +kernel) (by decide +kernel)
set_option maxRecDepth 20000 in
theorem gX11_fewest_X11_isHereBy : GoodIn wsX11_fewest (wsV RX11 162 RX11 yX11_isHereBy wsX11_isHereBy) := goodIn_app (goodIn_of _ (by decide +kernel)) ggX11_fewest_X11_isHereBy
theorem dX11_fewest_0 : decode cX11_fewest 0 = .ok (.aload_n 0, 1) := by decide +kernel
theorem dX11_fewest_1 : decode cX11_fewest 1 = .ok (.iload_n 1, 1) := by decide +kernel
theorem dX11_fewest_2 : decode cX11_fewest 2 = .ok (.invokevirtual 44, 3) := by decide +kernel
theorem dX11_fewest_5 : decode cX11_fewest 5 = .ok (.ifCond .eq 13, 3) := by decide +kernel
theorem dX11_fewest_8 : decode cX11_fewest 8 = .ok (.iload_n 2, 1) := by decide +kernel
theorem dX11_fewest_9 : decode cX11_fewest 9 = .ok (.iconst 0, 1) := by decide +kernel
theorem dX11_fewest_10 : decode cX11_fewest 10 = .ok (.bipush 60, 2) := by decide +kernel
theorem dX11_fewest_12 : decode cX11_fewest 12 = .ok (.invokestatic 132, 3) := by decide +kernel
theorem dX11_fewest_15 : decode cX11_fewest 15 = .ok (.goto 4, 3) := by decide +kernel
theorem dX11_fewest_18 : decode cX11_fewest 18 = .ok (.iconst (-1), 1) := by decide +kernel
theorem dX11_fewest_19 : decode cX11_fewest 19 = .ok (.istore_n 3, 1) := by decide +kernel
theorem dX11_fewest_20 : decode cX11_fewest 20 = .ok (.iload_n 3, 1) := by decide +kernel
theorem dX11_fewest_21 : decode cX11_fewest 21 = .ok (.ifCond .ne 17, 3) := by decide +kernel
theorem dX11_fewest_24 : decode cX11_fewest 24 = .ok (.aload_n 0, 1) := by decide +kernel
theorem dX11_fewest_25 : decode cX11_fewest 25 = .ok (.getfield 9, 3) := by decide +kernel
theorem dX11_fewest_28 : decode cX11_fewest 28 = .ok (.iload_n 1, 1) := by decide +kernel
theorem dX11_fewest_29 : decode cX11_fewest 29 = .ok (.invokestatic 52, 3) := by decide +kernel
theorem dX11_fewest_32 : decode cX11_fewest 32 = .ok (.ifCond .ne 6, 3) := by decide +kernel
theorem dX11_fewest_35 : decode cX11_fewest 35 = .ok (.bipush (-3), 2) := by decide +kernel
theorem dX11_fewest_37 : decode cX11_fewest 37 = .ok (.istore_n 3, 1) := by decide +kernel
theorem dX11_fewest_38 : decode cX11_fewest 38 = .ok (.iload_n 3, 1) := by decide +kernel
theorem dX11_fewest_39 : decode cX11_fewest 39 = .ok (.ifCond .eq 9, 3) := by decide +kernel
theorem dX11_fewest_42 : decode cX11_fewest 42 = .ok (.aload_n 0, 1) := by decide +kernel
theorem dX11_fewest_43 : decode cX11_fewest 43 = .ok (.iload_n 3, 1) := by decide +kernel
theorem dX11_fewest_44 : decode cX11_fewest 44 = .ok (.invokevirtual 36, 3) := by decide +kernel
theorem dX11_fewest_47 : decode cX11_fewest 47 = .ok (.ireturn, 1) := by decide +kernel
theorem dX11_fewest_48 : decode cX11_fewest 48 = .ok (.iconst 1, 1) := by decide +kernel
theorem dX11_fewest_49 : decode cX11_fewest 49 = .ok (.istore 4, 2) := by decide +kernel
theorem dX11_fewest_51 : decode cX11_fewest 51 = .ok (.iconst 0, 1) := by decide +kernel
theorem dX11_fewest_52 : decode cX11_fewest 52 = .ok (.istore 5, 2) := by decide +kernel
theorem dX11_fewest_54 : decode cX11_fewest 54 = .ok (.iload 5, 2) := by decide +kernel
theorem dX11_fewest_56 : decode cX11_fewest 56 = .ok (.iconst 3, 1) := by decide +kernel
theorem dX11_fewest_57 : decode cX11_fewest 57 = .ok (.if_icmp .gt 48, 3) := by decide +kernel
theorem dX11_fewest_60 : decode cX11_fewest 60 = .ok (.iconst 0, 1) := by decide +kernel
theorem dX11_fewest_61 : decode cX11_fewest 61 = .ok (.istore 6, 2) := by decide +kernel
theorem dX11_fewest_63 : decode cX11_fewest 63 = .ok (.iload 6, 2) := by decide +kernel
theorem dX11_fewest_65 : decode cX11_fewest 65 = .ok (.iload 4, 2) := by decide +kernel
theorem dX11_fewest_67 : decode cX11_fewest 67 = .ok (.if_icmp .ge 25, 3) := by decide +kernel
theorem dX11_fewest_70 : decode cX11_fewest 70 = .ok (.aload_n 0, 1) := by decide +kernel
theorem dX11_fewest_71 : decode cX11_fewest 71 = .ok (.iload_n 1, 1) := by decide +kernel
theorem dX11_fewest_72 : decode cX11_fewest 72 = .ok (.iload 5, 2) := by decide +kernel
theorem dX11_fewest_74 : decode cX11_fewest 74 = .ok (.iload 6, 2) := by decide +kernel
theorem dX11_fewest_76 : decode cX11_fewest 76 = .ok (.iload_n 2, 1) := by decide +kernel
theorem dX11_fewest_77 : decode cX11_fewest 77 = .ok (.invokevirtual 162, 3) := by decide +kernel
theorem dX11_fewest_80 : decode cX11_fewest 80 = .ok (.ifCond .eq 6, 3) := by decide +kernel
theorem dX11_fewest_83 : decode cX11_fewest 83 = .ok (.iload 5, 2) := by decide +kernel
theorem dX11_fewest_85 : decode cX11_fewest 85 = .ok (.ireturn, 1) := by decide +kernel
theorem dX11_fewest_86 : decode cX11_fewest 86 = .ok (.iinc 6 1, 3) := by decide +kernel
theorem dX11_fewest_89 : decode cX11_fewest 89 = .ok (.goto (-26), 3) := by decide +kernel
theorem dX11_fewest_92 : decode cX11_fewest 92 = .ok (.iload 4, 2) := by decide +kernel
theorem dX11_fewest_94 : decode cX11_fewest 94 = .ok (.bipush 8, 2) := by decide +kernel
theorem dX11_fewest_96 : decode cX11_fewest 96 = .ok (.imul, 1) := by decide +kernel
theorem dX11_fewest_97 : decode cX11_fewest 97 = .ok (.istore 4, 2) := by decide +kernel
theorem dX11_fewest_99 : decode cX11_fewest 99 = .ok (.iinc 5 1, 3) := by decide +kernel
theorem dX11_fewest_102 : decode cX11_fewest 102 = .ok (.goto (-48), 3) := by decide +kernel
theorem dX11_fewest_105 : decode cX11_fewest 105 = .ok (.bipush (-9), 2) := by decide +kernel
theorem dX11_fewest_107 : decode cX11_fewest 107 = .ok (.ireturn, 1) := by decide +kernel
set_option maxRecDepth 20000 in
theorem ggX11_save_X11_wrongBy : GoodIn wsX11_save wsX11_wrongBy := goodIn_r _ [6] (by decide +kernel) (by decide +kernel)
set_option maxRecDepth 20000 in
theorem gX11_save_X11_wrongBy : GoodIn wsX11_save (va_wsS RX11 132 yX11_wrongBy wsX11_wrongBy) := goodIn_app (goodIn_of _ (by decide +kernel)) ggX11_save_X11_wrongBy
set_option maxRecDepth 20000 in
theorem ggX11_save_X11_no : GoodIn wsX11_save wsX11_no := goodIn_r _ [10, 11, 58, 59, 60, 61, 62, 63, 64, 65, 66, 67, 68, 69, 70] (by decide +kernel) (by decide +kernel)
set_option maxRecDepth 20000 in
theorem gX11_save_X11_no : GoodIn wsX11_save (wsV RX11 36 RX11 yX11_no wsX11_no) := goodIn_app (goodIn_of _ (by decide +kernel)) ggX11_save_X11_no
set_option maxRecDepth 20000 in
theorem ggX11_save_X11_takes : GoodIn wsX11_save wsX11_takes := goodIn_r _ [15, 2, 1, 16, 17, 5, 18, 19, 20, 21, 22, 23, 24, 25, 26, 27, 28, 29, 30, 31, 32, 33, 34, 35, 36, 37, 38, 39, 40, 41, 42, 43, 44, 45, 46, 47, 48, 49, 50, 51, 58, 59, 60, 61, 62, 63, 64, 65, 66, 67, 68, 69, 70] (by decide +kernel) (by decide +kernel)
set_option maxRecDepth 20000 in
theorem gX11_save_X11_takes : GoodIn wsX11_save (wsV RX11 142 RX11 yX11_takes wsX11_takes) := goodIn_app (goodIn_of _ (by decide +kernel)) ggX11_save_X11_takes
set_option maxRecDepth 20000 in
theorem ggX11_save_X11_hereIn : GoodIn wsX11_save wsX11_hereIn := goodIn_r _ [54, 28, 29, 5, 30] (by decide +kernel) (by decide +kernel)
set_option maxRecDepth 20000 in
theorem gX11_save_X11_hereIn : GoodIn wsX11_save (va_wsS RX11 136 yX11_hereIn wsX11_hereIn) := goodIn_app (goodIn_of _ (by decide +kernel)) ggX11_save_X11_hereIn
set_option maxRecDepth 20000 in
theorem ggX11_save_X11_bits : GoodIn wsX11_save wsX11_bits := goodIn_r _ [57] (by decide +kernel) (by decide +kernel)
set_option maxRecDepth 20000 in
theorem gX11_save_X11_bits : GoodIn wsX11_save (va_wsS RX11 139 yX11_bits wsX11_bits) := goodIn_app (goodIn_of _ (by decide +kernel)) ggX11_save_X11_bits
set_option maxRecDepth 20000 in
theorem ggX11_save_X11_isHere : GoodIn wsX11_save wsX11_isHere := goodIn_r _ [33, 28, 29, 5, 30] (by decide +kernel) (by decide +kernel)
set_option maxRecDepth 20000 in
theorem gX11_save_X11_isHere : GoodIn wsX11_save (va_wsS RX11 52 yX11_isHere wsX11_isHere) := goodIn_app (goodIn_of _ (by decide +kernel)) ggX11_save_X11_isHere
set_option maxRecDepth 20000 in
theorem ggX11_save_X11_copies : GoodIn wsX11_save wsX11_copies := goodIn_r _ [18] (by decide +kernel) (by decide +kernel)
set_option maxRecDepth 20000 in
theorem gX11_save_X11_copies : GoodIn wsX11_save (va_wsS RX11 125 yX11_copies wsX11_copies) := goodIn_app (goodIn_of _ (by decide +kernel)) ggX11_save_X11_copies
set_option maxRecDepth 20000 in
theorem ggX11_save_X11_of : GoodIn wsX11_save wsX11_of := goodIn_r _ [30] (by decide +kernel) (by decide +kernel)
set_option maxRecDepth 20000 in
theorem gX11_save_X11_of : GoodIn wsX11_save (va_wsS RX11 48 yX11_of wsX11_of) := goodIn_app (goodIn_of _ (by decide +kernel)) ggX11_save_X11_of
set_option maxRecDepth 20000 in
theorem ggX11_save_X11_weeksOn : GoodIn wsX11_save wsX11_weeksOn := goodIn_r _ [21, 22, 23, 5, 24, 25, 26, 27, 28, 29, 30, 31, 32, 33, 34, 35, 36, 37, 38, 39, 40, 41, 42, 43, 44, 45, 46, 47, 48, 49, 50, 51] (by decide +kernel) (by decide +kernel)
set_option maxRecDepth 20000 in
theorem gX11_save_X11_weeksOn : GoodIn wsX11_save (va_wsS RX11 119 yX11_weeksOn wsX11_weeksOn) := goodIn_app (goodIn_of _ (by decide +kernel)) ggX11_save_X11_weeksOn
theorem dX11_save_0 : decode cX11_save 0 = .ok (.iload_n 1, 1) := by decide +kernel
theorem dX11_save_1 : decode cX11_save 1 = .ok (.iconst 0, 1) := by decide +kernel
theorem dX11_save_2 : decode cX11_save 2 = .ok (.bipush 60, 2) := by decide +kernel
theorem dX11_save_4 : decode cX11_save 4 = .ok (.invokestatic 132, 3) := by decide +kernel
theorem dX11_save_7 : decode cX11_save 7 = .ok (.istore_n 2, 1) := by decide +kernel
theorem dX11_save_8 : decode cX11_save 8 = .ok (.iload_n 2, 1) := by decide +kernel
theorem dX11_save_9 : decode cX11_save 9 = .ok (.ifCond .eq 9, 3) := by decide +kernel
theorem dX11_save_12 : decode cX11_save 12 = .ok (.aload_n 0, 1) := by decide +kernel
theorem dX11_save_13 : decode cX11_save 13 = .ok (.iload_n 2, 1) := by decide +kernel
theorem dX11_save_14 : decode cX11_save 14 = .ok (.invokevirtual 36, 3) := by decide +kernel
theorem dX11_save_17 : decode cX11_save 17 = .ok (.ireturn, 1) := by decide +kernel
theorem dX11_save_18 : decode cX11_save 18 = .ok (.aload_n 0, 1) := by decide +kernel
theorem dX11_save_19 : decode cX11_save 19 = .ok (.iload_n 1, 1) := by decide +kernel
theorem dX11_save_20 : decode cX11_save 20 = .ok (.invokevirtual 142, 3) := by decide +kernel
theorem dX11_save_23 : decode cX11_save 23 = .ok (.aload_n 0, 1) := by decide +kernel
theorem dX11_save_24 : decode cX11_save 24 = .ok (.getfield 13, 3) := by decide +kernel
theorem dX11_save_27 : decode cX11_save 27 = .ok (.invokestatic 136, 3) := by decide +kernel
theorem dX11_save_30 : decode cX11_save 30 = .ok (.invokestatic 139, 3) := by decide +kernel
theorem dX11_save_33 : decode cX11_save 33 = .ok (.istore_n 3, 1) := by decide +kernel
theorem dX11_save_34 : decode cX11_save 34 = .ok (.bipush (-9), 2) := by decide +kernel
theorem dX11_save_36 : decode cX11_save 36 = .ok (.istore 4, 2) := by decide +kernel
theorem dX11_save_38 : decode cX11_save 38 = .ok (.iconst 0, 1) := by decide +kernel
theorem dX11_save_39 : decode cX11_save 39 = .ok (.istore 5, 2) := by decide +kernel
theorem dX11_save_41 : decode cX11_save 41 = .ok (.iload 5, 2) := by decide +kernel
theorem dX11_save_43 : decode cX11_save 43 = .ok (.aload_n 0, 1) := by decide +kernel
theorem dX11_save_44 : decode cX11_save 44 = .ok (.getfield 9, 3) := by decide +kernel
theorem dX11_save_47 : decode cX11_save 47 = .ok (.iconst 0, 1) := by decide +kernel
theorem dX11_save_48 : decode cX11_save 48 = .ok (.iaload, 1) := by decide +kernel
theorem dX11_save_49 : decode cX11_save 49 = .ok (.if_icmp .ge 83, 3) := by decide +kernel
theorem dX11_save_52 : decode cX11_save 52 = .ok (.aload_n 0, 1) := by decide +kernel
theorem dX11_save_53 : decode cX11_save 53 = .ok (.getfield 9, 3) := by decide +kernel
theorem dX11_save_56 : decode cX11_save 56 = .ok (.iload 5, 2) := by decide +kernel
theorem dX11_save_58 : decode cX11_save 58 = .ok (.invokestatic 52, 3) := by decide +kernel
theorem dX11_save_61 : decode cX11_save 61 = .ok (.ifCond .ne 6, 3) := by decide +kernel
theorem dX11_save_64 : decode cX11_save 64 = .ok (.goto 62, 3) := by decide +kernel
theorem dX11_save_67 : decode cX11_save 67 = .ok (.aload_n 0, 1) := by decide +kernel
theorem dX11_save_68 : decode cX11_save 68 = .ok (.getfield 9, 3) := by decide +kernel
theorem dX11_save_71 : decode cX11_save 71 = .ok (.aload_n 0, 1) := by decide +kernel
theorem dX11_save_72 : decode cX11_save 72 = .ok (.getfield 13, 3) := by decide +kernel
theorem dX11_save_75 : decode cX11_save 75 = .ok (.invokestatic 125, 3) := by decide +kernel
theorem dX11_save_78 : decode cX11_save 78 = .ok (.aload_n 0, 1) := by decide +kernel
theorem dX11_save_79 : decode cX11_save 79 = .ok (.getfield 13, 3) := by decide +kernel
theorem dX11_save_82 : decode cX11_save 82 = .ok (.iload 5, 2) := by decide +kernel
theorem dX11_save_84 : decode cX11_save 84 = .ok (.iconst 0, 1) := by decide +kernel
theorem dX11_save_85 : decode cX11_save 85 = .ok (.invokestatic 48, 3) := by decide +kernel
theorem dX11_save_88 : decode cX11_save 88 = .ok (.iconst 4, 1) := by decide +kernel
theorem dX11_save_89 : decode cX11_save 89 = .ok (.iastore, 1) := by decide +kernel
theorem dX11_save_90 : decode cX11_save 90 = .ok (.aload_n 0, 1) := by decide +kernel
theorem dX11_save_91 : decode cX11_save 91 = .ok (.getfield 13, 3) := by decide +kernel
theorem dX11_save_94 : decode cX11_save 94 = .ok (.iload_n 1, 1) := by decide +kernel
theorem dX11_save_95 : decode cX11_save 95 = .ok (.invokestatic 119, 3) := by decide +kernel
theorem dX11_save_98 : decode cX11_save 98 = .ok (.aload_n 0, 1) := by decide +kernel
theorem dX11_save_99 : decode cX11_save 99 = .ok (.getfield 13, 3) := by decide +kernel
theorem dX11_save_102 : decode cX11_save 102 = .ok (.invokestatic 136, 3) := by decide +kernel
theorem dX11_save_105 : decode cX11_save 105 = .ok (.invokestatic 139, 3) := by decide +kernel
theorem dX11_save_108 : decode cX11_save 108 = .ok (.istore 6, 2) := by decide +kernel
theorem dX11_save_110 : decode cX11_save 110 = .ok (.iload 6, 2) := by decide +kernel
theorem dX11_save_112 : decode cX11_save 112 = .ok (.iload_n 3, 1) := by decide +kernel
theorem dX11_save_113 : decode cX11_save 113 = .ok (.if_icmp .gt 6, 3) := by decide +kernel
theorem dX11_save_116 : decode cX11_save 116 = .ok (.goto 10, 3) := by decide +kernel
theorem dX11_save_119 : decode cX11_save 119 = .ok (.iload 5, 2) := by decide +kernel
theorem dX11_save_121 : decode cX11_save 121 = .ok (.istore 4, 2) := by decide +kernel
theorem dX11_save_123 : decode cX11_save 123 = .ok (.iload 6, 2) := by decide +kernel
theorem dX11_save_125 : decode cX11_save 125 = .ok (.istore_n 3, 1) := by decide +kernel
theorem dX11_save_126 : decode cX11_save 126 = .ok (.iinc 5 1, 3) := by decide +kernel
theorem dX11_save_129 : decode cX11_save 129 = .ok (.goto (-88), 3) := by decide +kernel
theorem dX11_save_132 : decode cX11_save 132 = .ok (.iload 4, 2) := by decide +kernel
theorem dX11_save_134 : decode cX11_save 134 = .ok (.ireturn, 1) := by decide +kernel
set_option maxRecDepth 20000 in
theorem ggX11_bring_X11_isIn : GoodIn wsX11_bring wsX11_isIn := goodIn_r _ [6] (by decide +kernel) (by decide +kernel)
set_option maxRecDepth 20000 in
theorem gX11_bring_X11_isIn : GoodIn wsX11_bring (va_wsS RX11 40 yX11_isIn wsX11_isIn) := goodIn_app (goodIn_of _ (by decide +kernel)) ggX11_bring_X11_isIn
set_option maxRecDepth 20000 in
theorem ggX11_bring_X11_no : GoodIn wsX11_bring wsX11_no := goodIn_r _ [10, 11, 52, 53, 54, 55, 56, 57, 58, 59, 60, 61, 62, 63, 64] (by decide +kernel) (by decide +kernel)
set_option maxRecDepth 20000 in
theorem gX11_bring_X11_no : GoodIn wsX11_bring (wsV RX11 36 RX11 yX11_no wsX11_no) := goodIn_app (goodIn_of _ (by decide +kernel)) ggX11_bring_X11_no
set_option maxRecDepth 20000 in
theorem ggX11_bring_X11_isHere : GoodIn wsX11_bring wsX11_isHere := goodIn_r _ [14, 15, 16, 5, 17] (by decide +kernel) (by decide +kernel)
set_option maxRecDepth 20000 in
theorem gX11_bring_X11_isHere : GoodIn wsX11_bring (va_wsS RX11 52 yX11_isHere wsX11_isHere) := goodIn_app (goodIn_of _ (by decide +kernel)) ggX11_bring_X11_isHere
set_option maxRecDepth 20000 in
theorem ggX11_bring_X11_copies : GoodIn wsX11_bring wsX11_copies := goodIn_r _ [20] (by decide +kernel) (by decide +kernel)
set_option maxRecDepth 20000 in
theorem gX11_bring_X11_copies : GoodIn wsX11_bring (va_wsS RX11 125 yX11_copies wsX11_copies) := goodIn_app (goodIn_of _ (by decide +kernel)) ggX11_bring_X11_copies
set_option maxRecDepth 20000 in
theorem ggX11_bring_X11_comesBack : GoodIn wsX11_bring wsX11_comesBack := goodIn_r _ [23, 12, 13, 5, 14, 15, 16, 17, 24, 25, 26] (by decide +kernel) (by decide +kernel)
set_option maxRecDepth 20000 in
theorem gX11_bring_X11_comesBack : GoodIn wsX11_bring (va_wsS RX11 116 yX11_comesBack wsX11_comesBack) := goodIn_app (goodIn_of _ (by decide +kernel)) ggX11_bring_X11_comesBack
set_option maxRecDepth 20000 in
theorem ggX11_bring_X11_goesIn : GoodIn wsX11_bring wsX11_goesIn := goodIn_r _ [30, 2, 12, 13, 5, 14, 15, 16, 17, 31, 32, 33, 34, 35, 36, 24, 25, 26, 37, 38, 39, 40, 41, 42, 43, 44, 45, 46, 47, 48, 49, 50, 51, 52, 53, 54, 55, 56, 57, 58, 59, 60, 61, 62, 63, 64] (by decide +kernel) (by decide +kernel)
set_option maxRecDepth 20000 in
theorem gX11_bring_X11_goesIn : GoodIn wsX11_bring (wsV RX11 146 RX11 yX11_goesIn wsX11_goesIn) := goodIn_app (goodIn_of _ (by decide +kernel)) ggX11_bring_X11_goesIn
theorem dX11_bring_0 : decode cX11_bring 0 = .ok (.iload_n 1, 1) := by decide +kernel
theorem dX11_bring_1 : decode cX11_bring 1 = .ok (.iconst 0, 1) := by decide +kernel
theorem dX11_bring_2 : decode cX11_bring 2 = .ok (.iconst 1, 1) := by decide +kernel
theorem dX11_bring_3 : decode cX11_bring 3 = .ok (.invokestatic 40, 3) := by decide +kernel
theorem dX11_bring_6 : decode cX11_bring 6 = .ok (.ifCond .ne 10, 3) := by decide +kernel
theorem dX11_bring_9 : decode cX11_bring 9 = .ok (.aload_n 0, 1) := by decide +kernel
theorem dX11_bring_10 : decode cX11_bring 10 = .ok (.bipush (-2), 2) := by decide +kernel
theorem dX11_bring_12 : decode cX11_bring 12 = .ok (.invokevirtual 36, 3) := by decide +kernel
theorem dX11_bring_15 : decode cX11_bring 15 = .ok (.ireturn, 1) := by decide +kernel
theorem dX11_bring_16 : decode cX11_bring 16 = .ok (.bipush (-9), 2) := by decide +kernel
theorem dX11_bring_18 : decode cX11_bring 18 = .ok (.istore_n 2, 1) := by decide +kernel
theorem dX11_bring_19 : decode cX11_bring 19 = .ok (.iconst (-1), 1) := by decide +kernel
theorem dX11_bring_20 : decode cX11_bring 20 = .ok (.istore_n 3, 1) := by decide +kernel
theorem dX11_bring_21 : decode cX11_bring 21 = .ok (.iconst 0, 1) := by decide +kernel
theorem dX11_bring_22 : decode cX11_bring 22 = .ok (.istore 4, 2) := by decide +kernel
theorem dX11_bring_24 : decode cX11_bring 24 = .ok (.iload 4, 2) := by decide +kernel
theorem dX11_bring_26 : decode cX11_bring 26 = .ok (.aload_n 0, 1) := by decide +kernel
theorem dX11_bring_27 : decode cX11_bring 27 = .ok (.getfield 9, 3) := by decide +kernel
theorem dX11_bring_30 : decode cX11_bring 30 = .ok (.iconst 0, 1) := by decide +kernel
theorem dX11_bring_31 : decode cX11_bring 31 = .ok (.iaload, 1) := by decide +kernel
theorem dX11_bring_32 : decode cX11_bring 32 = .ok (.if_icmp .ge 81, 3) := by decide +kernel
theorem dX11_bring_35 : decode cX11_bring 35 = .ok (.aload_n 0, 1) := by decide +kernel
theorem dX11_bring_36 : decode cX11_bring 36 = .ok (.getfield 9, 3) := by decide +kernel
theorem dX11_bring_39 : decode cX11_bring 39 = .ok (.iload 4, 2) := by decide +kernel
theorem dX11_bring_41 : decode cX11_bring 41 = .ok (.invokestatic 52, 3) := by decide +kernel
theorem dX11_bring_44 : decode cX11_bring 44 = .ok (.ifCond .eq 6, 3) := by decide +kernel
theorem dX11_bring_47 : decode cX11_bring 47 = .ok (.goto 60, 3) := by decide +kernel
theorem dX11_bring_50 : decode cX11_bring 50 = .ok (.aload_n 0, 1) := by decide +kernel
theorem dX11_bring_51 : decode cX11_bring 51 = .ok (.getfield 9, 3) := by decide +kernel
theorem dX11_bring_54 : decode cX11_bring 54 = .ok (.aload_n 0, 1) := by decide +kernel
theorem dX11_bring_55 : decode cX11_bring 55 = .ok (.getfield 13, 3) := by decide +kernel
theorem dX11_bring_58 : decode cX11_bring 58 = .ok (.invokestatic 125, 3) := by decide +kernel
theorem dX11_bring_61 : decode cX11_bring 61 = .ok (.aload_n 0, 1) := by decide +kernel
theorem dX11_bring_62 : decode cX11_bring 62 = .ok (.getfield 13, 3) := by decide +kernel
theorem dX11_bring_65 : decode cX11_bring 65 = .ok (.iload 4, 2) := by decide +kernel
theorem dX11_bring_67 : decode cX11_bring 67 = .ok (.invokestatic 116, 3) := by decide +kernel
theorem dX11_bring_70 : decode cX11_bring 70 = .ok (.aload_n 0, 1) := by decide +kernel
theorem dX11_bring_71 : decode cX11_bring 71 = .ok (.iload 4, 2) := by decide +kernel
theorem dX11_bring_73 : decode cX11_bring 73 = .ok (.invokevirtual 146, 3) := by decide +kernel
theorem dX11_bring_76 : decode cX11_bring 76 = .ok (.istore 5, 2) := by decide +kernel
theorem dX11_bring_78 : decode cX11_bring 78 = .ok (.iload 5, 2) := by decide +kernel
theorem dX11_bring_80 : decode cX11_bring 80 = .ok (.ifCond .ge 8, 3) := by decide +kernel
theorem dX11_bring_83 : decode cX11_bring 83 = .ok (.bipush 99, 2) := by decide +kernel
theorem dX11_bring_85 : decode cX11_bring 85 = .ok (.goto 5, 3) := by decide +kernel
theorem dX11_bring_88 : decode cX11_bring 88 = .ok (.iload 5, 2) := by decide +kernel
theorem dX11_bring_90 : decode cX11_bring 90 = .ok (.istore 5, 2) := by decide +kernel
theorem dX11_bring_92 : decode cX11_bring 92 = .ok (.iload 5, 2) := by decide +kernel
theorem dX11_bring_94 : decode cX11_bring 94 = .ok (.iload_n 3, 1) := by decide +kernel
theorem dX11_bring_95 : decode cX11_bring 95 = .ok (.if_icmp .gt 6, 3) := by decide +kernel
theorem dX11_bring_98 : decode cX11_bring 98 = .ok (.goto 9, 3) := by decide +kernel
theorem dX11_bring_101 : decode cX11_bring 101 = .ok (.iload 4, 2) := by decide +kernel
theorem dX11_bring_103 : decode cX11_bring 103 = .ok (.istore_n 2, 1) := by decide +kernel
theorem dX11_bring_104 : decode cX11_bring 104 = .ok (.iload 5, 2) := by decide +kernel
theorem dX11_bring_106 : decode cX11_bring 106 = .ok (.istore_n 3, 1) := by decide +kernel
theorem dX11_bring_107 : decode cX11_bring 107 = .ok (.iinc 4 1, 3) := by decide +kernel
theorem dX11_bring_110 : decode cX11_bring 110 = .ok (.goto (-86), 3) := by decide +kernel
theorem dX11_bring_113 : decode cX11_bring 113 = .ok (.iload_n 2, 1) := by decide +kernel
theorem dX11_bring_114 : decode cX11_bring 114 = .ok (.ifCond .lt 7, 3) := by decide +kernel
theorem dX11_bring_117 : decode cX11_bring 117 = .ok (.iload_n 1, 1) := by decide +kernel
theorem dX11_bring_118 : decode cX11_bring 118 = .ok (.ifCond .ne 7, 3) := by decide +kernel
theorem dX11_bring_121 : decode cX11_bring 121 = .ok (.iload_n 2, 1) := by decide +kernel
theorem dX11_bring_122 : decode cX11_bring 122 = .ok (.goto 4, 3) := by decide +kernel
theorem dX11_bring_125 : decode cX11_bring 125 = .ok (.iload_n 3, 1) := by decide +kernel
theorem dX11_bring_126 : decode cX11_bring 126 = .ok (.ireturn, 1) := by decide +kernel
set_option maxRecDepth 20000 in
theorem ggX11_areLeagued_X11_isHere : GoodIn wsX11_areLeagued wsX11_isHere := goodIn_r _ [5, 6, 7, 4, 8] (by decide +kernel) (by decide +kernel)
set_option maxRecDepth 20000 in
theorem gX11_areLeagued_X11_isHere : GoodIn wsX11_areLeagued (va_wsS RX11 52 yX11_isHere wsX11_isHere) := goodIn_app (goodIn_of _ (by decide +kernel)) ggX11_areLeagued_X11_isHere
set_option maxRecDepth 20000 in
theorem ggX11_areLeagued_X11_by : GoodIn wsX11_areLeagued wsX11_by := goodIn_r _ [11] (by decide +kernel) (by decide +kernel)
set_option maxRecDepth 20000 in
theorem gX11_areLeagued_X11_by : GoodIn wsX11_areLeagued (va_wsS RX11 56 yX11_by wsX11_by) := goodIn_app (goodIn_of _ (by decide +kernel)) ggX11_areLeagued_X11_by
theorem dX11_areLeagued_0 : decode cX11_areLeagued 0 = .ok (.aload_n 0, 1) := by decide +kernel
theorem dX11_areLeagued_1 : decode cX11_areLeagued 1 = .ok (.getfield 9, 3) := by decide +kernel
theorem dX11_areLeagued_4 : decode cX11_areLeagued 4 = .ok (.iload_n 1, 1) := by decide +kernel
theorem dX11_areLeagued_5 : decode cX11_areLeagued 5 = .ok (.invokestatic 52, 3) := by decide +kernel
theorem dX11_areLeagued_8 : decode cX11_areLeagued 8 = .ok (.ifCond .eq 48, 3) := by decide +kernel
theorem dX11_areLeagued_11 : decode cX11_areLeagued 11 = .ok (.aload_n 0, 1) := by decide +kernel
theorem dX11_areLeagued_12 : decode cX11_areLeagued 12 = .ok (.getfield 9, 3) := by decide +kernel
theorem dX11_areLeagued_15 : decode cX11_areLeagued 15 = .ok (.iload_n 2, 1) := by decide +kernel
theorem dX11_areLeagued_16 : decode cX11_areLeagued 16 = .ok (.invokestatic 52, 3) := by decide +kernel
theorem dX11_areLeagued_19 : decode cX11_areLeagued 19 = .ok (.ifCond .eq 37, 3) := by decide +kernel
theorem dX11_areLeagued_22 : decode cX11_areLeagued 22 = .ok (.aload_n 0, 1) := by decide +kernel
theorem dX11_areLeagued_23 : decode cX11_areLeagued 23 = .ok (.getfield 9, 3) := by decide +kernel
theorem dX11_areLeagued_26 : decode cX11_areLeagued 26 = .ok (.iload_n 1, 1) := by decide +kernel
theorem dX11_areLeagued_27 : decode cX11_areLeagued 27 = .ok (.iload_n 2, 1) := by decide +kernel
theorem dX11_areLeagued_28 : decode cX11_areLeagued 28 = .ok (.invokestatic 56, 3) := by decide +kernel
theorem dX11_areLeagued_31 : decode cX11_areLeagued 31 = .ok (.iaload, 1) := by decide +kernel
theorem dX11_areLeagued_32 : decode cX11_areLeagued 32 = .ok (.bipush 50, 2) := by decide +kernel
theorem dX11_areLeagued_34 : decode cX11_areLeagued 34 = .ok (.if_icmp .lt 22, 3) := by decide +kernel
theorem dX11_areLeagued_37 : decode cX11_areLeagued 37 = .ok (.aload_n 0, 1) := by decide +kernel
theorem dX11_areLeagued_38 : decode cX11_areLeagued 38 = .ok (.getfield 9, 3) := by decide +kernel
theorem dX11_areLeagued_41 : decode cX11_areLeagued 41 = .ok (.iload_n 2, 1) := by decide +kernel
theorem dX11_areLeagued_42 : decode cX11_areLeagued 42 = .ok (.iload_n 1, 1) := by decide +kernel
theorem dX11_areLeagued_43 : decode cX11_areLeagued 43 = .ok (.invokestatic 56, 3) := by decide +kernel
theorem dX11_areLeagued_46 : decode cX11_areLeagued 46 = .ok (.iaload, 1) := by decide +kernel
theorem dX11_areLeagued_47 : decode cX11_areLeagued 47 = .ok (.bipush 50, 2) := by decide +kernel
theorem dX11_areLeagued_49 : decode cX11_areLeagued 49 = .ok (.if_icmp .lt 7, 3) := by decide +kernel
theorem dX11_areLeagued_52 : decode cX11_areLeagued 52 = .ok (.iconst 1, 1) := by decide +kernel
theorem dX11_areLeagued_53 : decode cX11_areLeagued 53 = .ok (.goto 4, 3) := by decide +kernel
theorem dX11_areLeagued_56 : decode cX11_areLeagued 56 = .ok (.iconst 0, 1) := by decide +kernel
theorem dX11_areLeagued_57 : decode cX11_areLeagued 57 = .ok (.ireturn, 1) := by decide +kernel
set_option maxRecDepth 20000 in
theorem ggX11_league_X11_wrongOne : GoodIn wsX11_league wsX11_wrongOne := goodIn_r _ [6, 1, 7, 8, 9, 5, 10, 11, 12, 13, 14, 15, 16, 17, 18, 19, 32, 33, 34, 35, 36, 37, 38, 39, 40, 41, 42, 43, 44] (by decide +kernel) (by decide +kernel)
set_option maxRecDepth 20000 in
theorem gX11_league_X11_wrongOne : GoodIn wsX11_league (wsV RX11 156 RX11 yX11_wrongOne wsX11_wrongOne) := goodIn_app (goodIn_of _ (by decide +kernel)) ggX11_league_X11_wrongOne
set_option maxRecDepth 20000 in
theorem ggX11_league_X11_no : GoodIn wsX11_league wsX11_no := goodIn_r _ [23, 24, 32, 33, 34, 35, 36, 37, 38, 39, 40, 41, 42, 43, 44] (by decide +kernel) (by decide +kernel)
set_option maxRecDepth 20000 in
theorem gX11_league_X11_no : GoodIn wsX11_league (wsV RX11 36 RX11 yX11_no wsX11_no) := goodIn_app (goodIn_of _ (by decide +kernel)) ggX11_league_X11_no
set_option maxRecDepth 20000 in
theorem ggX11_league_X11_areLeagued : GoodIn wsX11_league wsX11_areLeagued := goodIn_r _ [28, 1, 14, 15, 5, 16, 17, 18, 19, 29, 30, 31, 32, 33, 34, 35, 36, 37, 38, 39, 40, 41, 42, 43, 44] (by decide +kernel) (by decide +kernel)
set_option maxRecDepth 20000 in
theorem gX11_league_X11_areLeagued : GoodIn wsX11_league (wsV RX11 166 RX11 yX11_areLeagued wsX11_areLeagued) := goodIn_app (goodIn_of _ (by decide +kernel)) ggX11_league_X11_areLeagued
theorem dX11_league_0 : decode cX11_league 0 = .ok (.aload_n 0, 1) := by decide +kernel
theorem dX11_league_1 : decode cX11_league 1 = .ok (.iload_n 1, 1) := by decide +kernel
theorem dX11_league_2 : decode cX11_league 2 = .ok (.invokevirtual 156, 3) := by decide +kernel
theorem dX11_league_5 : decode cX11_league 5 = .ok (.istore_n 2, 1) := by decide +kernel
theorem dX11_league_6 : decode cX11_league 6 = .ok (.iload_n 2, 1) := by decide +kernel
theorem dX11_league_7 : decode cX11_league 7 = .ok (.ifCond .eq 9, 3) := by decide +kernel
theorem dX11_league_10 : decode cX11_league 10 = .ok (.aload_n 0, 1) := by decide +kernel
theorem dX11_league_11 : decode cX11_league 11 = .ok (.iload_n 2, 1) := by decide +kernel
theorem dX11_league_12 : decode cX11_league 12 = .ok (.invokevirtual 36, 3) := by decide +kernel
theorem dX11_league_15 : decode cX11_league 15 = .ok (.ireturn, 1) := by decide +kernel
theorem dX11_league_16 : decode cX11_league 16 = .ok (.iconst 0, 1) := by decide +kernel
theorem dX11_league_17 : decode cX11_league 17 = .ok (.istore_n 3, 1) := by decide +kernel
theorem dX11_league_18 : decode cX11_league 18 = .ok (.iconst 0, 1) := by decide +kernel
theorem dX11_league_19 : decode cX11_league 19 = .ok (.istore 4, 2) := by decide +kernel
theorem dX11_league_21 : decode cX11_league 21 = .ok (.iload 4, 2) := by decide +kernel
theorem dX11_league_23 : decode cX11_league 23 = .ok (.aload_n 0, 1) := by decide +kernel
theorem dX11_league_24 : decode cX11_league 24 = .ok (.getfield 9, 3) := by decide +kernel
theorem dX11_league_27 : decode cX11_league 27 = .ok (.iconst 0, 1) := by decide +kernel
theorem dX11_league_28 : decode cX11_league 28 = .ok (.iaload, 1) := by decide +kernel
theorem dX11_league_29 : decode cX11_league 29 = .ok (.if_icmp .ge 36, 3) := by decide +kernel
theorem dX11_league_32 : decode cX11_league 32 = .ok (.iload_n 3, 1) := by decide +kernel
theorem dX11_league_33 : decode cX11_league 33 = .ok (.iload 4, 2) := by decide +kernel
theorem dX11_league_35 : decode cX11_league 35 = .ok (.iload_n 1, 1) := by decide +kernel
theorem dX11_league_36 : decode cX11_league 36 = .ok (.if_icmp .eq 20, 3) := by decide +kernel
theorem dX11_league_39 : decode cX11_league 39 = .ok (.aload_n 0, 1) := by decide +kernel
theorem dX11_league_40 : decode cX11_league 40 = .ok (.iload_n 1, 1) := by decide +kernel
theorem dX11_league_41 : decode cX11_league 41 = .ok (.iload 4, 2) := by decide +kernel
theorem dX11_league_43 : decode cX11_league 43 = .ok (.invokevirtual 166, 3) := by decide +kernel
theorem dX11_league_46 : decode cX11_league 46 = .ok (.ifCond .eq 10, 3) := by decide +kernel
theorem dX11_league_49 : decode cX11_league 49 = .ok (.iconst 1, 1) := by decide +kernel
theorem dX11_league_50 : decode cX11_league 50 = .ok (.iload 4, 2) := by decide +kernel
theorem dX11_league_52 : decode cX11_league 52 = .ok (.ishl, 1) := by decide +kernel
theorem dX11_league_53 : decode cX11_league 53 = .ok (.goto 4, 3) := by decide +kernel
theorem dX11_league_56 : decode cX11_league 56 = .ok (.iconst 0, 1) := by decide +kernel
theorem dX11_league_57 : decode cX11_league 57 = .ok (.ior, 1) := by decide +kernel
theorem dX11_league_58 : decode cX11_league 58 = .ok (.istore_n 3, 1) := by decide +kernel
theorem dX11_league_59 : decode cX11_league 59 = .ok (.iinc 4 1, 3) := by decide +kernel
theorem dX11_league_62 : decode cX11_league 62 = .ok (.goto (-41), 3) := by decide +kernel
theorem dX11_league_65 : decode cX11_league 65 = .ok (.iload_n 3, 1) := by decide +kernel
theorem dX11_league_66 : decode cX11_league 66 = .ok (.ireturn, 1) := by decide +kernel
set_option maxRecDepth 20000 in
theorem ggX11_largest_X11_isIn : GoodIn wsX11_largest wsX11_isIn := goodIn_r _ [5] (by decide +kernel) (by decide +kernel)
set_option maxRecDepth 20000 in
theorem gX11_largest_X11_isIn : GoodIn wsX11_largest (va_wsS RX11 40 yX11_isIn wsX11_isIn) := goodIn_app (goodIn_of _ (by decide +kernel)) ggX11_largest_X11_isIn
set_option maxRecDepth 20000 in
theorem ggX11_largest_X11_no : GoodIn wsX11_largest wsX11_no := goodIn_r _ [9, 10, 33, 34, 35, 36, 37, 38, 39, 40, 41, 42, 43, 44, 45] (by decide +kernel) (by decide +kernel)
set_option maxRecDepth 20000 in
theorem gX11_largest_X11_no : GoodIn wsX11_largest (wsV RX11 36 RX11 yX11_no wsX11_no) := goodIn_app (goodIn_of _ (by decide +kernel)) ggX11_largest_X11_no
set_option maxRecDepth 20000 in
theorem ggX11_largest_X11_hereIn : GoodIn wsX11_largest wsX11_hereIn := goodIn_r _ [13, 14, 15, 4, 16] (by decide +kernel) (by decide +kernel)
set_option maxRecDepth 20000 in
theorem gX11_largest_X11_hereIn : GoodIn wsX11_largest (va_wsS RX11 136 yX11_hereIn wsX11_hereIn) := goodIn_app (goodIn_of _ (by decide +kernel)) ggX11_largest_X11_hereIn
set_option maxRecDepth 20000 in
theorem ggX11_largest_X11_bits : GoodIn wsX11_largest wsX11_bits := goodIn_r _ [19] (by decide +kernel) (by decide +kernel)
set_option maxRecDepth 20000 in
theorem gX11_largest_X11_bits : GoodIn wsX11_largest (va_wsS RX11 139 yX11_bits wsX11_bits) := goodIn_app (goodIn_of _ (by decide +kernel)) ggX11_largest_X11_bits
set_option maxRecDepth 20000 in
theorem ggX11_largest_X11_has : GoodIn wsX11_largest wsX11_has := goodIn_r _ [22] (by decide +kernel) (by decide +kernel)
set_option maxRecDepth 20000 in
theorem gX11_largest_X11_has : GoodIn wsX11_largest (va_wsS RX11 169 yX11_has wsX11_has) := goodIn_app (goodIn_of _ (by decide +kernel)) ggX11_largest_X11_has
set_option maxRecDepth 20000 in
theorem ggX11_largest_X11_areLeagued : GoodIn wsX11_largest wsX11_areLeagued := goodIn_r _ [26, 1, 27, 28, 4, 29, 14, 15, 16, 30, 31, 32, 33, 34, 35, 36, 37, 38, 39, 40, 41, 42, 43, 44, 45] (by decide +kernel) (by decide +kernel)
set_option maxRecDepth 20000 in
theorem gX11_largest_X11_areLeagued : GoodIn wsX11_largest (wsV RX11 166 RX11 yX11_areLeagued wsX11_areLeagued) := goodIn_app (goodIn_of _ (by decide +kernel)) ggX11_largest_X11_areLeagued
theorem dX11_largest_0 : decode cX11_largest 0 = .ok (.iload_n 1, 1) := by decide +kernel
theorem dX11_largest_1 : decode cX11_largest 1 = .ok (.iconst 0, 1) := by decide +kernel
theorem dX11_largest_2 : decode cX11_largest 2 = .ok (.iconst 1, 1) := by decide +kernel
theorem dX11_largest_3 : decode cX11_largest 3 = .ok (.invokestatic 40, 3) := by decide +kernel
theorem dX11_largest_6 : decode cX11_largest 6 = .ok (.ifCond .ne 10, 3) := by decide +kernel
theorem dX11_largest_9 : decode cX11_largest 9 = .ok (.aload_n 0, 1) := by decide +kernel
theorem dX11_largest_10 : decode cX11_largest 10 = .ok (.bipush (-2), 2) := by decide +kernel
theorem dX11_largest_12 : decode cX11_largest 12 = .ok (.invokevirtual 36, 3) := by decide +kernel
theorem dX11_largest_15 : decode cX11_largest 15 = .ok (.ireturn, 1) := by decide +kernel
theorem dX11_largest_16 : decode cX11_largest 16 = .ok (.aload_n 0, 1) := by decide +kernel
theorem dX11_largest_17 : decode cX11_largest 17 = .ok (.getfield 9, 3) := by decide +kernel
theorem dX11_largest_20 : decode cX11_largest 20 = .ok (.invokestatic 136, 3) := by decide +kernel
theorem dX11_largest_23 : decode cX11_largest 23 = .ok (.istore_n 2, 1) := by decide +kernel
theorem dX11_largest_24 : decode cX11_largest 24 = .ok (.iconst 0, 1) := by decide +kernel
theorem dX11_largest_25 : decode cX11_largest 25 = .ok (.istore_n 3, 1) := by decide +kernel
theorem dX11_largest_26 : decode cX11_largest 26 = .ok (.iconst 0, 1) := by decide +kernel
theorem dX11_largest_27 : decode cX11_largest 27 = .ok (.istore 4, 2) := by decide +kernel
theorem dX11_largest_29 : decode cX11_largest 29 = .ok (.iload 4, 2) := by decide +kernel
theorem dX11_largest_31 : decode cX11_largest 31 = .ok (.iload_n 2, 1) := by decide +kernel
theorem dX11_largest_32 : decode cX11_largest 32 = .ok (.if_icmp .gt 133, 3) := by decide +kernel
theorem dX11_largest_35 : decode cX11_largest 35 = .ok (.iload 4, 2) := by decide +kernel
theorem dX11_largest_37 : decode cX11_largest 37 = .ok (.iload_n 2, 1) := by decide +kernel
theorem dX11_largest_38 : decode cX11_largest 38 = .ok (.iconst (-1), 1) := by decide +kernel
theorem dX11_largest_39 : decode cX11_largest 39 = .ok (.ixor, 1) := by decide +kernel
theorem dX11_largest_40 : decode cX11_largest 40 = .ok (.iand, 1) := by decide +kernel
theorem dX11_largest_41 : decode cX11_largest 41 = .ok (.ifCond .ne 19, 3) := by decide +kernel
theorem dX11_largest_44 : decode cX11_largest 44 = .ok (.iload 4, 2) := by decide +kernel
theorem dX11_largest_46 : decode cX11_largest 46 = .ok (.invokestatic 139, 3) := by decide +kernel
theorem dX11_largest_49 : decode cX11_largest 49 = .ok (.iload_n 3, 1) := by decide +kernel
theorem dX11_largest_50 : decode cX11_largest 50 = .ok (.invokestatic 139, 3) := by decide +kernel
theorem dX11_largest_53 : decode cX11_largest 53 = .ok (.if_icmp .le 7, 3) := by decide +kernel
theorem dX11_largest_56 : decode cX11_largest 56 = .ok (.iconst 1, 1) := by decide +kernel
theorem dX11_largest_57 : decode cX11_largest 57 = .ok (.goto 4, 3) := by decide +kernel
theorem dX11_largest_60 : decode cX11_largest 60 = .ok (.iconst 0, 1) := by decide +kernel
theorem dX11_largest_61 : decode cX11_largest 61 = .ok (.istore 5, 2) := by decide +kernel
theorem dX11_largest_63 : decode cX11_largest 63 = .ok (.iconst 0, 1) := by decide +kernel
theorem dX11_largest_64 : decode cX11_largest 64 = .ok (.istore 6, 2) := by decide +kernel
theorem dX11_largest_66 : decode cX11_largest 66 = .ok (.iload 6, 2) := by decide +kernel
theorem dX11_largest_68 : decode cX11_largest 68 = .ok (.aload_n 0, 1) := by decide +kernel
theorem dX11_largest_69 : decode cX11_largest 69 = .ok (.getfield 9, 3) := by decide +kernel
theorem dX11_largest_72 : decode cX11_largest 72 = .ok (.iconst 0, 1) := by decide +kernel
theorem dX11_largest_73 : decode cX11_largest 73 = .ok (.iaload, 1) := by decide +kernel
theorem dX11_largest_74 : decode cX11_largest 74 = .ok (.if_icmp .ge 73, 3) := by decide +kernel
theorem dX11_largest_77 : decode cX11_largest 77 = .ok (.iload 5, 2) := by decide +kernel
theorem dX11_largest_79 : decode cX11_largest 79 = .ok (.ifCond .eq 68, 3) := by decide +kernel
theorem dX11_largest_82 : decode cX11_largest 82 = .ok (.iconst 0, 1) := by decide +kernel
theorem dX11_largest_83 : decode cX11_largest 83 = .ok (.istore 7, 2) := by decide +kernel
theorem dX11_largest_85 : decode cX11_largest 85 = .ok (.iload 7, 2) := by decide +kernel
theorem dX11_largest_87 : decode cX11_largest 87 = .ok (.iload 6, 2) := by decide +kernel
theorem dX11_largest_89 : decode cX11_largest 89 = .ok (.if_icmp .ge 52, 3) := by decide +kernel
theorem dX11_largest_92 : decode cX11_largest 92 = .ok (.iload 5, 2) := by decide +kernel
theorem dX11_largest_94 : decode cX11_largest 94 = .ok (.ifCond .eq 47, 3) := by decide +kernel
theorem dX11_largest_97 : decode cX11_largest 97 = .ok (.iload 4, 2) := by decide +kernel
theorem dX11_largest_99 : decode cX11_largest 99 = .ok (.iload 6, 2) := by decide +kernel
theorem dX11_largest_101 : decode cX11_largest 101 = .ok (.invokestatic 169, 3) := by decide +kernel
theorem dX11_largest_104 : decode cX11_largest 104 = .ok (.ifCond .eq 24, 3) := by decide +kernel
theorem dX11_largest_107 : decode cX11_largest 107 = .ok (.iload 4, 2) := by decide +kernel
theorem dX11_largest_109 : decode cX11_largest 109 = .ok (.iload 7, 2) := by decide +kernel
theorem dX11_largest_111 : decode cX11_largest 111 = .ok (.invokestatic 169, 3) := by decide +kernel
theorem dX11_largest_114 : decode cX11_largest 114 = .ok (.ifCond .eq 14, 3) := by decide +kernel
theorem dX11_largest_117 : decode cX11_largest 117 = .ok (.aload_n 0, 1) := by decide +kernel
theorem dX11_largest_118 : decode cX11_largest 118 = .ok (.iload 6, 2) := by decide +kernel
theorem dX11_largest_120 : decode cX11_largest 120 = .ok (.iload 7, 2) := by decide +kernel
theorem dX11_largest_122 : decode cX11_largest 122 = .ok (.invokevirtual 166, 3) := by decide +kernel
theorem dX11_largest_125 : decode cX11_largest 125 = .ok (.ifCond .eq 7, 3) := by decide +kernel
theorem dX11_largest_128 : decode cX11_largest 128 = .ok (.iconst 1, 1) := by decide +kernel
theorem dX11_largest_129 : decode cX11_largest 129 = .ok (.goto 4, 3) := by decide +kernel
theorem dX11_largest_132 : decode cX11_largest 132 = .ok (.iconst 0, 1) := by decide +kernel
theorem dX11_largest_133 : decode cX11_largest 133 = .ok (.istore 5, 2) := by decide +kernel
theorem dX11_largest_135 : decode cX11_largest 135 = .ok (.iinc 7 1, 3) := by decide +kernel
theorem dX11_largest_138 : decode cX11_largest 138 = .ok (.goto (-53), 3) := by decide +kernel
theorem dX11_largest_141 : decode cX11_largest 141 = .ok (.iinc 6 1, 3) := by decide +kernel
theorem dX11_largest_144 : decode cX11_largest 144 = .ok (.goto (-78), 3) := by decide +kernel
theorem dX11_largest_147 : decode cX11_largest 147 = .ok (.iload 5, 2) := by decide +kernel
theorem dX11_largest_149 : decode cX11_largest 149 = .ok (.ifCond .eq 8, 3) := by decide +kernel
theorem dX11_largest_152 : decode cX11_largest 152 = .ok (.iload 4, 2) := by decide +kernel
theorem dX11_largest_154 : decode cX11_largest 154 = .ok (.goto 4, 3) := by decide +kernel
theorem dX11_largest_157 : decode cX11_largest 157 = .ok (.iload_n 3, 1) := by decide +kernel
theorem dX11_largest_158 : decode cX11_largest 158 = .ok (.istore_n 3, 1) := by decide +kernel
theorem dX11_largest_159 : decode cX11_largest 159 = .ok (.iinc 4 1, 3) := by decide +kernel
theorem dX11_largest_162 : decode cX11_largest 162 = .ok (.goto (-133), 3) := by decide +kernel
theorem dX11_largest_165 : decode cX11_largest 165 = .ok (.iload_n 1, 1) := by decide +kernel
theorem dX11_largest_166 : decode cX11_largest 166 = .ok (.ifCond .ne 7, 3) := by decide +kernel
theorem dX11_largest_169 : decode cX11_largest 169 = .ok (.iload_n 3, 1) := by decide +kernel
theorem dX11_largest_170 : decode cX11_largest 170 = .ok (.goto 7, 3) := by decide +kernel
theorem dX11_largest_173 : decode cX11_largest 173 = .ok (.iload_n 3, 1) := by decide +kernel
theorem dX11_largest_174 : decode cX11_largest 174 = .ok (.invokestatic 139, 3) := by decide +kernel
theorem dX11_largest_177 : decode cX11_largest 177 = .ok (.ireturn, 1) := by decide +kernel
set_option maxRecDepth 20000 in
theorem ggX11_cold_X11_isIn : GoodIn wsX11_cold wsX11_isIn := goodIn_r _ [5] (by decide +kernel) (by decide +kernel)
set_option maxRecDepth 20000 in
theorem gX11_cold_X11_isIn : GoodIn wsX11_cold (va_wsS RX11 40 yX11_isIn wsX11_isIn) := goodIn_app (goodIn_of _ (by decide +kernel)) ggX11_cold_X11_isIn
set_option maxRecDepth 20000 in
theorem ggX11_cold_X11_no : GoodIn wsX11_cold wsX11_no := goodIn_r _ [9, 10, 20, 21, 22, 23, 24, 25, 26, 27, 28, 29, 30, 31, 32] (by decide +kernel) (by decide +kernel)
set_option maxRecDepth 20000 in
theorem gX11_cold_X11_no : GoodIn wsX11_cold (wsV RX11 36 RX11 yX11_no wsX11_no) := goodIn_app (goodIn_of _ (by decide +kernel)) ggX11_cold_X11_no
set_option maxRecDepth 20000 in
theorem ggX11_cold_X11_isHere : GoodIn wsX11_cold wsX11_isHere := goodIn_r _ [13, 14, 15, 4, 16] (by decide +kernel) (by decide +kernel)
set_option maxRecDepth 20000 in
theorem gX11_cold_X11_isHere : GoodIn wsX11_cold (va_wsS RX11 52 yX11_isHere wsX11_isHere) := goodIn_app (goodIn_of _ (by decide +kernel)) ggX11_cold_X11_isHere
set_option maxRecDepth 20000 in
theorem ggX11_cold_X11_by : GoodIn wsX11_cold wsX11_by := goodIn_r _ [19] (by decide +kernel) (by decide +kernel)
set_option maxRecDepth 20000 in
theorem gX11_cold_X11_by : GoodIn wsX11_cold (va_wsS RX11 56 yX11_by wsX11_by) := goodIn_app (goodIn_of _ (by decide +kernel)) ggX11_cold_X11_by
theorem dX11_cold_0 : decode cX11_cold 0 = .ok (.iload_n 1, 1) := by decide +kernel
theorem dX11_cold_1 : decode cX11_cold 1 = .ok (.iconst 0, 1) := by decide +kernel
theorem dX11_cold_2 : decode cX11_cold 2 = .ok (.iconst 1, 1) := by decide +kernel
theorem dX11_cold_3 : decode cX11_cold 3 = .ok (.invokestatic 40, 3) := by decide +kernel
theorem dX11_cold_6 : decode cX11_cold 6 = .ok (.ifCond .ne 10, 3) := by decide +kernel
theorem dX11_cold_9 : decode cX11_cold 9 = .ok (.aload_n 0, 1) := by decide +kernel
theorem dX11_cold_10 : decode cX11_cold 10 = .ok (.bipush (-2), 2) := by decide +kernel
theorem dX11_cold_12 : decode cX11_cold 12 = .ok (.invokevirtual 36, 3) := by decide +kernel
theorem dX11_cold_15 : decode cX11_cold 15 = .ok (.ireturn, 1) := by decide +kernel
theorem dX11_cold_16 : decode cX11_cold 16 = .ok (.iconst 0, 1) := by decide +kernel
theorem dX11_cold_17 : decode cX11_cold 17 = .ok (.istore_n 2, 1) := by decide +kernel
theorem dX11_cold_18 : decode cX11_cold 18 = .ok (.bipush (-9), 2) := by decide +kernel
theorem dX11_cold_20 : decode cX11_cold 20 = .ok (.istore_n 3, 1) := by decide +kernel
theorem dX11_cold_21 : decode cX11_cold 21 = .ok (.iconst 0, 1) := by decide +kernel
theorem dX11_cold_22 : decode cX11_cold 22 = .ok (.istore 4, 2) := by decide +kernel
theorem dX11_cold_24 : decode cX11_cold 24 = .ok (.iload 4, 2) := by decide +kernel
theorem dX11_cold_26 : decode cX11_cold 26 = .ok (.aload_n 0, 1) := by decide +kernel
theorem dX11_cold_27 : decode cX11_cold 27 = .ok (.getfield 9, 3) := by decide +kernel
theorem dX11_cold_30 : decode cX11_cold 30 = .ok (.iconst 0, 1) := by decide +kernel
theorem dX11_cold_31 : decode cX11_cold 31 = .ok (.iaload, 1) := by decide +kernel
theorem dX11_cold_32 : decode cX11_cold 32 = .ok (.if_icmp .ge 107, 3) := by decide +kernel
theorem dX11_cold_35 : decode cX11_cold 35 = .ok (.iload 4, 2) := by decide +kernel
theorem dX11_cold_37 : decode cX11_cold 37 = .ok (.iconst 1, 1) := by decide +kernel
theorem dX11_cold_38 : decode cX11_cold 38 = .ok (.iadd, 1) := by decide +kernel
theorem dX11_cold_39 : decode cX11_cold 39 = .ok (.istore 5, 2) := by decide +kernel
theorem dX11_cold_41 : decode cX11_cold 41 = .ok (.iload 5, 2) := by decide +kernel
theorem dX11_cold_43 : decode cX11_cold 43 = .ok (.aload_n 0, 1) := by decide +kernel
theorem dX11_cold_44 : decode cX11_cold 44 = .ok (.getfield 9, 3) := by decide +kernel
theorem dX11_cold_47 : decode cX11_cold 47 = .ok (.iconst 0, 1) := by decide +kernel
theorem dX11_cold_48 : decode cX11_cold 48 = .ok (.iaload, 1) := by decide +kernel
theorem dX11_cold_49 : decode cX11_cold 49 = .ok (.if_icmp .ge 84, 3) := by decide +kernel
theorem dX11_cold_52 : decode cX11_cold 52 = .ok (.aload_n 0, 1) := by decide +kernel
theorem dX11_cold_53 : decode cX11_cold 53 = .ok (.getfield 9, 3) := by decide +kernel
theorem dX11_cold_56 : decode cX11_cold 56 = .ok (.iload 4, 2) := by decide +kernel
theorem dX11_cold_58 : decode cX11_cold 58 = .ok (.invokestatic 52, 3) := by decide +kernel
theorem dX11_cold_61 : decode cX11_cold 61 = .ok (.ifCond .eq 66, 3) := by decide +kernel
theorem dX11_cold_64 : decode cX11_cold 64 = .ok (.aload_n 0, 1) := by decide +kernel
theorem dX11_cold_65 : decode cX11_cold 65 = .ok (.getfield 9, 3) := by decide +kernel
theorem dX11_cold_68 : decode cX11_cold 68 = .ok (.iload 5, 2) := by decide +kernel
theorem dX11_cold_70 : decode cX11_cold 70 = .ok (.invokestatic 52, 3) := by decide +kernel
theorem dX11_cold_73 : decode cX11_cold 73 = .ok (.ifCond .eq 54, 3) := by decide +kernel
theorem dX11_cold_76 : decode cX11_cold 76 = .ok (.aload_n 0, 1) := by decide +kernel
theorem dX11_cold_77 : decode cX11_cold 77 = .ok (.getfield 9, 3) := by decide +kernel
theorem dX11_cold_80 : decode cX11_cold 80 = .ok (.iload 4, 2) := by decide +kernel
theorem dX11_cold_82 : decode cX11_cold 82 = .ok (.iload 5, 2) := by decide +kernel
theorem dX11_cold_84 : decode cX11_cold 84 = .ok (.invokestatic 56, 3) := by decide +kernel
theorem dX11_cold_87 : decode cX11_cold 87 = .ok (.iaload, 1) := by decide +kernel
theorem dX11_cold_88 : decode cX11_cold 88 = .ok (.aload_n 0, 1) := by decide +kernel
theorem dX11_cold_89 : decode cX11_cold 89 = .ok (.getfield 9, 3) := by decide +kernel
theorem dX11_cold_92 : decode cX11_cold 92 = .ok (.iload 5, 2) := by decide +kernel
theorem dX11_cold_94 : decode cX11_cold 94 = .ok (.iload 4, 2) := by decide +kernel
theorem dX11_cold_96 : decode cX11_cold 96 = .ok (.invokestatic 56, 3) := by decide +kernel
theorem dX11_cold_99 : decode cX11_cold 99 = .ok (.iaload, 1) := by decide +kernel
theorem dX11_cold_100 : decode cX11_cold 100 = .ok (.iadd, 1) := by decide +kernel
theorem dX11_cold_101 : decode cX11_cold 101 = .ok (.ifCond .le 6, 3) := by decide +kernel
theorem dX11_cold_104 : decode cX11_cold 104 = .ok (.goto 23, 3) := by decide +kernel
theorem dX11_cold_107 : decode cX11_cold 107 = .ok (.iload_n 2, 1) := by decide +kernel
theorem dX11_cold_108 : decode cX11_cold 108 = .ok (.ifCond .ne 14, 3) := by decide +kernel
theorem dX11_cold_111 : decode cX11_cold 111 = .ok (.bipush 10, 2) := by decide +kernel
theorem dX11_cold_113 : decode cX11_cold 113 = .ok (.iload 4, 2) := by decide +kernel
theorem dX11_cold_115 : decode cX11_cold 115 = .ok (.imul, 1) := by decide +kernel
theorem dX11_cold_116 : decode cX11_cold 116 = .ok (.iload 5, 2) := by decide +kernel
theorem dX11_cold_118 : decode cX11_cold 118 = .ok (.iadd, 1) := by decide +kernel
theorem dX11_cold_119 : decode cX11_cold 119 = .ok (.goto 4, 3) := by decide +kernel
theorem dX11_cold_122 : decode cX11_cold 122 = .ok (.iload_n 3, 1) := by decide +kernel
theorem dX11_cold_123 : decode cX11_cold 123 = .ok (.istore_n 3, 1) := by decide +kernel
theorem dX11_cold_124 : decode cX11_cold 124 = .ok (.iinc 2 1, 3) := by decide +kernel
theorem dX11_cold_127 : decode cX11_cold 127 = .ok (.iinc 5 1, 3) := by decide +kernel
theorem dX11_cold_130 : decode cX11_cold 130 = .ok (.goto (-89), 3) := by decide +kernel
theorem dX11_cold_133 : decode cX11_cold 133 = .ok (.iinc 4 1, 3) := by decide +kernel
theorem dX11_cold_136 : decode cX11_cold 136 = .ok (.goto (-112), 3) := by decide +kernel
theorem dX11_cold_139 : decode cX11_cold 139 = .ok (.iload_n 1, 1) := by decide +kernel
theorem dX11_cold_140 : decode cX11_cold 140 = .ok (.ifCond .ne 7, 3) := by decide +kernel
theorem dX11_cold_143 : decode cX11_cold 143 = .ok (.iload_n 2, 1) := by decide +kernel
theorem dX11_cold_144 : decode cX11_cold 144 = .ok (.goto 4, 3) := by decide +kernel
theorem dX11_cold_147 : decode cX11_cold 147 = .ok (.iload_n 3, 1) := by decide +kernel
theorem dX11_cold_148 : decode cX11_cold 148 = .ok (.ireturn, 1) := by decide +kernel
set_option maxRecDepth 20000 in
theorem ggX11_envy_X11_wrongOne : GoodIn wsX11_envy wsX11_wrongOne := goodIn_r _ [6, 1, 7, 8, 9, 5, 10, 11, 12, 13, 14, 15, 16, 17, 18, 19, 28, 29, 30, 31, 32, 33, 34, 35, 36, 37, 38, 39, 40] (by decide +kernel) (by decide +kernel)
set_option maxRecDepth 20000 in
theorem gX11_envy_X11_wrongOne : GoodIn wsX11_envy (wsV RX11 156 RX11 yX11_wrongOne wsX11_wrongOne) := goodIn_app (goodIn_of _ (by decide +kernel)) ggX11_envy_X11_wrongOne
set_option maxRecDepth 20000 in
theorem ggX11_envy_X11_no : GoodIn wsX11_envy wsX11_no := goodIn_r _ [23, 24, 28, 29, 30, 31, 32, 33, 34, 35, 36, 37, 38, 39, 40] (by decide +kernel) (by decide +kernel)
set_option maxRecDepth 20000 in
theorem gX11_envy_X11_no : GoodIn wsX11_envy (wsV RX11 36 RX11 yX11_no wsX11_no) := goodIn_app (goodIn_of _ (by decide +kernel)) ggX11_envy_X11_no
set_option maxRecDepth 20000 in
theorem ggX11_envy_X11_isHere : GoodIn wsX11_envy wsX11_isHere := goodIn_r _ [16, 17, 18, 5, 19] (by decide +kernel) (by decide +kernel)
set_option maxRecDepth 20000 in
theorem gX11_envy_X11_isHere : GoodIn wsX11_envy (va_wsS RX11 52 yX11_isHere wsX11_isHere) := goodIn_app (goodIn_of _ (by decide +kernel)) ggX11_envy_X11_isHere
set_option maxRecDepth 20000 in
theorem ggX11_envy_X11_by : GoodIn wsX11_envy wsX11_by := goodIn_r _ [27] (by decide +kernel) (by decide +kernel)
set_option maxRecDepth 20000 in
theorem gX11_envy_X11_by : GoodIn wsX11_envy (va_wsS RX11 56 yX11_by wsX11_by) := goodIn_app (goodIn_of _ (by decide +kernel)) ggX11_envy_X11_by
theorem dX11_envy_0 : decode cX11_envy 0 = .ok (.aload_n 0, 1) := by decide +kernel
theorem dX11_envy_1 : decode cX11_envy 1 = .ok (.iload_n 1, 1) := by decide +kernel
theorem dX11_envy_2 : decode cX11_envy 2 = .ok (.invokevirtual 156, 3) := by decide +kernel
theorem dX11_envy_5 : decode cX11_envy 5 = .ok (.istore_n 2, 1) := by decide +kernel
theorem dX11_envy_6 : decode cX11_envy 6 = .ok (.iload_n 2, 1) := by decide +kernel
theorem dX11_envy_7 : decode cX11_envy 7 = .ok (.ifCond .eq 9, 3) := by decide +kernel
theorem dX11_envy_10 : decode cX11_envy 10 = .ok (.aload_n 0, 1) := by decide +kernel
theorem dX11_envy_11 : decode cX11_envy 11 = .ok (.iload_n 2, 1) := by decide +kernel
theorem dX11_envy_12 : decode cX11_envy 12 = .ok (.invokevirtual 36, 3) := by decide +kernel
theorem dX11_envy_15 : decode cX11_envy 15 = .ok (.ireturn, 1) := by decide +kernel
theorem dX11_envy_16 : decode cX11_envy 16 = .ok (.bipush (-9), 2) := by decide +kernel
theorem dX11_envy_18 : decode cX11_envy 18 = .ok (.istore_n 3, 1) := by decide +kernel
theorem dX11_envy_19 : decode cX11_envy 19 = .ok (.iconst 0, 1) := by decide +kernel
theorem dX11_envy_20 : decode cX11_envy 20 = .ok (.istore 4, 2) := by decide +kernel
theorem dX11_envy_22 : decode cX11_envy 22 = .ok (.iload 4, 2) := by decide +kernel
theorem dX11_envy_24 : decode cX11_envy 24 = .ok (.aload_n 0, 1) := by decide +kernel
theorem dX11_envy_25 : decode cX11_envy 25 = .ok (.getfield 9, 3) := by decide +kernel
theorem dX11_envy_28 : decode cX11_envy 28 = .ok (.iconst 0, 1) := by decide +kernel
theorem dX11_envy_29 : decode cX11_envy 29 = .ok (.iaload, 1) := by decide +kernel
theorem dX11_envy_30 : decode cX11_envy 30 = .ok (.if_icmp .ge 58, 3) := by decide +kernel
theorem dX11_envy_33 : decode cX11_envy 33 = .ok (.iload 4, 2) := by decide +kernel
theorem dX11_envy_35 : decode cX11_envy 35 = .ok (.iload_n 1, 1) := by decide +kernel
theorem dX11_envy_36 : decode cX11_envy 36 = .ok (.if_icmp .eq 46, 3) := by decide +kernel
theorem dX11_envy_39 : decode cX11_envy 39 = .ok (.aload_n 0, 1) := by decide +kernel
theorem dX11_envy_40 : decode cX11_envy 40 = .ok (.getfield 9, 3) := by decide +kernel
theorem dX11_envy_43 : decode cX11_envy 43 = .ok (.iload 4, 2) := by decide +kernel
theorem dX11_envy_45 : decode cX11_envy 45 = .ok (.invokestatic 52, 3) := by decide +kernel
theorem dX11_envy_48 : decode cX11_envy 48 = .ok (.ifCond .eq 34, 3) := by decide +kernel
theorem dX11_envy_51 : decode cX11_envy 51 = .ok (.iload_n 3, 1) := by decide +kernel
theorem dX11_envy_52 : decode cX11_envy 52 = .ok (.ifCond .lt 27, 3) := by decide +kernel
theorem dX11_envy_55 : decode cX11_envy 55 = .ok (.aload_n 0, 1) := by decide +kernel
theorem dX11_envy_56 : decode cX11_envy 56 = .ok (.getfield 9, 3) := by decide +kernel
theorem dX11_envy_59 : decode cX11_envy 59 = .ok (.iload_n 1, 1) := by decide +kernel
theorem dX11_envy_60 : decode cX11_envy 60 = .ok (.iload 4, 2) := by decide +kernel
theorem dX11_envy_62 : decode cX11_envy 62 = .ok (.invokestatic 56, 3) := by decide +kernel
theorem dX11_envy_65 : decode cX11_envy 65 = .ok (.iaload, 1) := by decide +kernel
theorem dX11_envy_66 : decode cX11_envy 66 = .ok (.aload_n 0, 1) := by decide +kernel
theorem dX11_envy_67 : decode cX11_envy 67 = .ok (.getfield 9, 3) := by decide +kernel
theorem dX11_envy_70 : decode cX11_envy 70 = .ok (.iload_n 1, 1) := by decide +kernel
theorem dX11_envy_71 : decode cX11_envy 71 = .ok (.iload_n 3, 1) := by decide +kernel
theorem dX11_envy_72 : decode cX11_envy 72 = .ok (.invokestatic 56, 3) := by decide +kernel
theorem dX11_envy_75 : decode cX11_envy 75 = .ok (.iaload, 1) := by decide +kernel
theorem dX11_envy_76 : decode cX11_envy 76 = .ok (.if_icmp .ge 6, 3) := by decide +kernel
theorem dX11_envy_79 : decode cX11_envy 79 = .ok (.iload 4, 2) := by decide +kernel
theorem dX11_envy_81 : decode cX11_envy 81 = .ok (.istore_n 3, 1) := by decide +kernel
theorem dX11_envy_82 : decode cX11_envy 82 = .ok (.iinc 4 1, 3) := by decide +kernel
theorem dX11_envy_85 : decode cX11_envy 85 = .ok (.goto (-63), 3) := by decide +kernel
theorem dX11_envy_88 : decode cX11_envy 88 = .ok (.iload_n 3, 1) := by decide +kernel
theorem dX11_envy_89 : decode cX11_envy 89 = .ok (.ireturn, 1) := by decide +kernel
set_option maxRecDepth 20000 in
theorem ggX11_power_X11_isOne : GoodIn wsX11_power wsX11_isOne := goodIn_r _ [8, 1, 9, 10, 7, 11, 53, 54, 55, 56, 57, 58, 59, 60, 61, 62, 63, 64, 65] (by decide +kernel) (by decide +kernel)
set_option maxRecDepth 20000 in
theorem gX11_power_X11_isOne : GoodIn wsX11_power (wsV RX11 44 RX11 yX11_isOne wsX11_isOne) := goodIn_app (goodIn_of _ (by decide +kernel)) ggX11_power_X11_isOne
set_option maxRecDepth 20000 in
theorem ggX11_power_X11_wrongBy : GoodIn wsX11_power wsX11_wrongBy := goodIn_r _ [14] (by decide +kernel) (by decide +kernel)
set_option maxRecDepth 20000 in
theorem gX11_power_X11_wrongBy : GoodIn wsX11_power (va_wsS RX11 132 yX11_wrongBy wsX11_wrongBy) := goodIn_app (goodIn_of _ (by decide +kernel)) ggX11_power_X11_wrongBy
set_option maxRecDepth 20000 in
theorem ggX11_power_X11_isHere : GoodIn wsX11_power wsX11_isHere := goodIn_r _ [17, 18, 19, 7, 20] (by decide +kernel) (by decide +kernel)
set_option maxRecDepth 20000 in
theorem gX11_power_X11_isHere : GoodIn wsX11_power (va_wsS RX11 52 yX11_isHere wsX11_isHere) := goodIn_app (goodIn_of _ (by decide +kernel)) ggX11_power_X11_isHere
set_option maxRecDepth 20000 in
theorem ggX11_power_X11_no : GoodIn wsX11_power wsX11_no := goodIn_r _ [24, 25, 53, 54, 55, 56, 57, 58, 59, 60, 61, 62, 63, 64, 65] (by decide +kernel) (by decide +kernel)
set_option maxRecDepth 20000 in
theorem gX11_power_X11_no : GoodIn wsX11_power (wsV RX11 36 RX11 yX11_no wsX11_no) := goodIn_app (goodIn_of _ (by decide +kernel)) ggX11_power_X11_no
set_option maxRecDepth 20000 in
theorem ggX11_power_X11_copies : GoodIn wsX11_power wsX11_copies := goodIn_r _ [28] (by decide +kernel) (by decide +kernel)
set_option maxRecDepth 20000 in
theorem gX11_power_X11_copies : GoodIn wsX11_power (va_wsS RX11 125 yX11_copies wsX11_copies) := goodIn_app (goodIn_of _ (by decide +kernel)) ggX11_power_X11_copies
set_option maxRecDepth 20000 in
theorem ggX11_power_X11_by : GoodIn wsX11_power wsX11_by := goodIn_r _ [31] (by decide +kernel) (by decide +kernel)
set_option maxRecDepth 20000 in
theorem gX11_power_X11_by : GoodIn wsX11_power (va_wsS RX11 56 yX11_by wsX11_by) := goodIn_app (goodIn_of _ (by decide +kernel)) ggX11_power_X11_by
set_option maxRecDepth 20000 in
theorem ggX11_power_X11_week : GoodIn wsX11_power wsX11_week := goodIn_r _ [34, 35, 36, 7, 37, 18, 19, 20, 15, 16, 17, 29, 30, 31, 38, 39, 40, 41, 42, 43, 44, 45, 46, 47, 48, 49, 50, 51, 52] (by decide +kernel) (by decide +kernel)
set_option maxRecDepth 20000 in
theorem gX11_power_X11_week : GoodIn wsX11_power (va_wsS RX11 80 yX11_week wsX11_week) := goodIn_app (goodIn_of _ (by decide +kernel)) ggX11_power_X11_week
set_option maxRecDepth 20000 in
theorem ggX11_power_X11_leastIn : GoodIn wsX11_power wsX11_leastIn := goodIn_r _ [43, 15, 16, 7, 17, 18, 19, 20, 44, 45, 46, 47, 48, 49, 29, 30, 31] (by decide +kernel) (by decide +kernel)
set_option maxRecDepth 20000 in
theorem gX11_power_X11_leastIn : GoodIn wsX11_power (va_wsS RX11 72 yX11_leastIn wsX11_leastIn) := goodIn_app (goodIn_of _ (by decide +kernel)) ggX11_power_X11_leastIn
theorem dX11_power_0 : decode cX11_power 0 = .ok (.aload_n 0, 1) := by decide +kernel
theorem dX11_power_1 : decode cX11_power 1 = .ok (.iload_n 1, 1) := by decide +kernel
theorem dX11_power_2 : decode cX11_power 2 = .ok (.invokevirtual 44, 3) := by decide +kernel
theorem dX11_power_5 : decode cX11_power 5 = .ok (.ifCond .eq 13, 3) := by decide +kernel
theorem dX11_power_8 : decode cX11_power 8 = .ok (.iload_n 2, 1) := by decide +kernel
theorem dX11_power_9 : decode cX11_power 9 = .ok (.iconst 1, 1) := by decide +kernel
theorem dX11_power_10 : decode cX11_power 10 = .ok (.bipush 60, 2) := by decide +kernel
theorem dX11_power_12 : decode cX11_power 12 = .ok (.invokestatic 132, 3) := by decide +kernel
theorem dX11_power_15 : decode cX11_power 15 = .ok (.goto 4, 3) := by decide +kernel
theorem dX11_power_18 : decode cX11_power 18 = .ok (.iconst (-1), 1) := by decide +kernel
theorem dX11_power_19 : decode cX11_power 19 = .ok (.istore_n 3, 1) := by decide +kernel
theorem dX11_power_20 : decode cX11_power 20 = .ok (.iload_n 3, 1) := by decide +kernel
theorem dX11_power_21 : decode cX11_power 21 = .ok (.ifCond .ne 17, 3) := by decide +kernel
theorem dX11_power_24 : decode cX11_power 24 = .ok (.aload_n 0, 1) := by decide +kernel
theorem dX11_power_25 : decode cX11_power 25 = .ok (.getfield 9, 3) := by decide +kernel
theorem dX11_power_28 : decode cX11_power 28 = .ok (.iload_n 1, 1) := by decide +kernel
theorem dX11_power_29 : decode cX11_power 29 = .ok (.invokestatic 52, 3) := by decide +kernel
theorem dX11_power_32 : decode cX11_power 32 = .ok (.ifCond .ne 6, 3) := by decide +kernel
theorem dX11_power_35 : decode cX11_power 35 = .ok (.bipush (-3), 2) := by decide +kernel
theorem dX11_power_37 : decode cX11_power 37 = .ok (.istore_n 3, 1) := by decide +kernel
theorem dX11_power_38 : decode cX11_power 38 = .ok (.iload_n 3, 1) := by decide +kernel
theorem dX11_power_39 : decode cX11_power 39 = .ok (.ifCond .eq 9, 3) := by decide +kernel
theorem dX11_power_42 : decode cX11_power 42 = .ok (.aload_n 0, 1) := by decide +kernel
theorem dX11_power_43 : decode cX11_power 43 = .ok (.iload_n 3, 1) := by decide +kernel
theorem dX11_power_44 : decode cX11_power 44 = .ok (.invokevirtual 36, 3) := by decide +kernel
theorem dX11_power_47 : decode cX11_power 47 = .ok (.ireturn, 1) := by decide +kernel
theorem dX11_power_48 : decode cX11_power 48 = .ok (.aload_n 0, 1) := by decide +kernel
theorem dX11_power_49 : decode cX11_power 49 = .ok (.getfield 9, 3) := by decide +kernel
theorem dX11_power_52 : decode cX11_power 52 = .ok (.aload_n 0, 1) := by decide +kernel
theorem dX11_power_53 : decode cX11_power 53 = .ok (.getfield 13, 3) := by decide +kernel
theorem dX11_power_56 : decode cX11_power 56 = .ok (.invokestatic 125, 3) := by decide +kernel
theorem dX11_power_59 : decode cX11_power 59 = .ok (.aload_n 0, 1) := by decide +kernel
theorem dX11_power_60 : decode cX11_power 60 = .ok (.getfield 9, 3) := by decide +kernel
theorem dX11_power_63 : decode cX11_power 63 = .ok (.aload_n 0, 1) := by decide +kernel
theorem dX11_power_64 : decode cX11_power 64 = .ok (.getfield 19, 3) := by decide +kernel
theorem dX11_power_67 : decode cX11_power 67 = .ok (.invokestatic 125, 3) := by decide +kernel
theorem dX11_power_70 : decode cX11_power 70 = .ok (.iconst 0, 1) := by decide +kernel
theorem dX11_power_71 : decode cX11_power 71 = .ok (.istore 4, 2) := by decide +kernel
theorem dX11_power_73 : decode cX11_power 73 = .ok (.iload 4, 2) := by decide +kernel
theorem dX11_power_75 : decode cX11_power 75 = .ok (.aload_n 0, 1) := by decide +kernel
theorem dX11_power_76 : decode cX11_power 76 = .ok (.getfield 9, 3) := by decide +kernel
theorem dX11_power_79 : decode cX11_power 79 = .ok (.iconst 0, 1) := by decide +kernel
theorem dX11_power_80 : decode cX11_power 80 = .ok (.iaload, 1) := by decide +kernel
theorem dX11_power_81 : decode cX11_power 81 = .ok (.if_icmp .ge 21, 3) := by decide +kernel
theorem dX11_power_84 : decode cX11_power 84 = .ok (.aload_n 0, 1) := by decide +kernel
theorem dX11_power_85 : decode cX11_power 85 = .ok (.getfield 19, 3) := by decide +kernel
theorem dX11_power_88 : decode cX11_power 88 = .ok (.iload_n 1, 1) := by decide +kernel
theorem dX11_power_89 : decode cX11_power 89 = .ok (.iload 4, 2) := by decide +kernel
theorem dX11_power_91 : decode cX11_power 91 = .ok (.invokestatic 56, 3) := by decide +kernel
theorem dX11_power_94 : decode cX11_power 94 = .ok (.iconst 0, 1) := by decide +kernel
theorem dX11_power_95 : decode cX11_power 95 = .ok (.iastore, 1) := by decide +kernel
theorem dX11_power_96 : decode cX11_power 96 = .ok (.iinc 4 1, 3) := by decide +kernel
theorem dX11_power_99 : decode cX11_power 99 = .ok (.goto (-26), 3) := by decide +kernel
theorem dX11_power_102 : decode cX11_power 102 = .ok (.iconst 0, 1) := by decide +kernel
theorem dX11_power_103 : decode cX11_power 103 = .ok (.istore 4, 2) := by decide +kernel
theorem dX11_power_105 : decode cX11_power 105 = .ok (.iconst 0, 1) := by decide +kernel
theorem dX11_power_106 : decode cX11_power 106 = .ok (.istore 5, 2) := by decide +kernel
theorem dX11_power_108 : decode cX11_power 108 = .ok (.iload 5, 2) := by decide +kernel
theorem dX11_power_110 : decode cX11_power 110 = .ok (.iload_n 2, 1) := by decide +kernel
theorem dX11_power_111 : decode cX11_power 111 = .ok (.if_icmp .ge 50, 3) := by decide +kernel
theorem dX11_power_114 : decode cX11_power 114 = .ok (.aload_n 0, 1) := by decide +kernel
theorem dX11_power_115 : decode cX11_power 115 = .ok (.getfield 13, 3) := by decide +kernel
theorem dX11_power_118 : decode cX11_power 118 = .ok (.invokestatic 80, 3) := by decide +kernel
theorem dX11_power_121 : decode cX11_power 121 = .ok (.aload_n 0, 1) := by decide +kernel
theorem dX11_power_122 : decode cX11_power 122 = .ok (.getfield 19, 3) := by decide +kernel
theorem dX11_power_125 : decode cX11_power 125 = .ok (.invokestatic 80, 3) := by decide +kernel
theorem dX11_power_128 : decode cX11_power 128 = .ok (.iload 4, 2) := by decide +kernel
theorem dX11_power_130 : decode cX11_power 130 = .ok (.aload_n 0, 1) := by decide +kernel
theorem dX11_power_131 : decode cX11_power 131 = .ok (.getfield 13, 3) := by decide +kernel
theorem dX11_power_134 : decode cX11_power 134 = .ok (.invokestatic 72, 3) := by decide +kernel
theorem dX11_power_137 : decode cX11_power 137 = .ok (.aload_n 0, 1) := by decide +kernel
theorem dX11_power_138 : decode cX11_power 138 = .ok (.getfield 19, 3) := by decide +kernel
theorem dX11_power_141 : decode cX11_power 141 = .ok (.invokestatic 72, 3) := by decide +kernel
theorem dX11_power_144 : decode cX11_power 144 = .ok (.if_icmp .ne 7, 3) := by decide +kernel
theorem dX11_power_147 : decode cX11_power 147 = .ok (.iconst 0, 1) := by decide +kernel
theorem dX11_power_148 : decode cX11_power 148 = .ok (.goto 4, 3) := by decide +kernel
theorem dX11_power_151 : decode cX11_power 151 = .ok (.iconst 1, 1) := by decide +kernel
theorem dX11_power_152 : decode cX11_power 152 = .ok (.iadd, 1) := by decide +kernel
theorem dX11_power_153 : decode cX11_power 153 = .ok (.istore 4, 2) := by decide +kernel
theorem dX11_power_155 : decode cX11_power 155 = .ok (.iinc 5 1, 3) := by decide +kernel
theorem dX11_power_158 : decode cX11_power 158 = .ok (.goto (-50), 3) := by decide +kernel
theorem dX11_power_161 : decode cX11_power 161 = .ok (.iload 4, 2) := by decide +kernel
theorem dX11_power_163 : decode cX11_power 163 = .ok (.ireturn, 1) := by decide +kernel
set_option maxRecDepth 20000 in
theorem ggX11_voids_X11_wrongBy : GoodIn wsX11_voids wsX11_wrongBy := goodIn_r _ [6] (by decide +kernel) (by decide +kernel)
set_option maxRecDepth 20000 in
theorem gX11_voids_X11_wrongBy : GoodIn wsX11_voids (va_wsS RX11 132 yX11_wrongBy wsX11_wrongBy) := goodIn_app (goodIn_of _ (by decide +kernel)) ggX11_voids_X11_wrongBy
set_option maxRecDepth 20000 in
theorem ggX11_voids_X11_no : GoodIn wsX11_voids wsX11_no := goodIn_r _ [10, 11, 52, 53, 54, 55, 56, 57, 58, 59, 60, 61, 62, 63, 64] (by decide +kernel) (by decide +kernel)
set_option maxRecDepth 20000 in
theorem gX11_voids_X11_no : GoodIn wsX11_voids (wsV RX11 36 RX11 yX11_no wsX11_no) := goodIn_app (goodIn_of _ (by decide +kernel)) ggX11_voids_X11_no
set_option maxRecDepth 20000 in
theorem ggX11_voids_X11_takes : GoodIn wsX11_voids wsX11_takes := goodIn_r _ [15, 1, 2, 16, 17, 5, 18, 19, 20, 21, 22, 23, 24, 25, 26, 27, 28, 29, 30, 31, 32, 33, 34, 35, 36, 37, 38, 39, 40, 41, 42, 43, 44, 45, 46, 47, 48, 49, 50, 51, 52, 53, 54, 55, 56, 57, 58, 59, 60, 61, 62, 63, 64] (by decide +kernel) (by decide +kernel)
set_option maxRecDepth 20000 in
theorem gX11_voids_X11_takes : GoodIn wsX11_voids (wsV RX11 142 RX11 yX11_takes wsX11_takes) := goodIn_app (goodIn_of _ (by decide +kernel)) ggX11_voids_X11_takes
set_option maxRecDepth 20000 in
theorem ggX11_voids_X11_isHere : GoodIn wsX11_voids wsX11_isHere := goodIn_r _ [33, 28, 29, 5, 30] (by decide +kernel) (by decide +kernel)
set_option maxRecDepth 20000 in
theorem gX11_voids_X11_isHere : GoodIn wsX11_voids (va_wsS RX11 52 yX11_isHere wsX11_isHere) := goodIn_app (goodIn_of _ (by decide +kernel)) ggX11_voids_X11_isHere
set_option maxRecDepth 20000 in
theorem ggX11_voids_X11_of : GoodIn wsX11_voids wsX11_of := goodIn_r _ [30] (by decide +kernel) (by decide +kernel)
set_option maxRecDepth 20000 in
theorem gX11_voids_X11_of : GoodIn wsX11_voids (va_wsS RX11 48 yX11_of wsX11_of) := goodIn_app (goodIn_of _ (by decide +kernel)) ggX11_voids_X11_of
theorem dX11_voids_0 : decode cX11_voids 0 = .ok (.iload_n 1, 1) := by decide +kernel
theorem dX11_voids_1 : decode cX11_voids 1 = .ok (.iconst 1, 1) := by decide +kernel
theorem dX11_voids_2 : decode cX11_voids 2 = .ok (.bipush 99, 2) := by decide +kernel
theorem dX11_voids_4 : decode cX11_voids 4 = .ok (.invokestatic 132, 3) := by decide +kernel
theorem dX11_voids_7 : decode cX11_voids 7 = .ok (.istore_n 2, 1) := by decide +kernel
theorem dX11_voids_8 : decode cX11_voids 8 = .ok (.iload_n 2, 1) := by decide +kernel
theorem dX11_voids_9 : decode cX11_voids 9 = .ok (.ifCond .eq 9, 3) := by decide +kernel
theorem dX11_voids_12 : decode cX11_voids 12 = .ok (.aload_n 0, 1) := by decide +kernel
theorem dX11_voids_13 : decode cX11_voids 13 = .ok (.iload_n 2, 1) := by decide +kernel
theorem dX11_voids_14 : decode cX11_voids 14 = .ok (.invokevirtual 36, 3) := by decide +kernel
theorem dX11_voids_17 : decode cX11_voids 17 = .ok (.ireturn, 1) := by decide +kernel
theorem dX11_voids_18 : decode cX11_voids 18 = .ok (.aload_n 0, 1) := by decide +kernel
theorem dX11_voids_19 : decode cX11_voids 19 = .ok (.iload_n 1, 1) := by decide +kernel
theorem dX11_voids_20 : decode cX11_voids 20 = .ok (.invokevirtual 142, 3) := by decide +kernel
theorem dX11_voids_23 : decode cX11_voids 23 = .ok (.iconst 0, 1) := by decide +kernel
theorem dX11_voids_24 : decode cX11_voids 24 = .ok (.istore_n 3, 1) := by decide +kernel
theorem dX11_voids_25 : decode cX11_voids 25 = .ok (.iconst 0, 1) := by decide +kernel
theorem dX11_voids_26 : decode cX11_voids 26 = .ok (.istore 4, 2) := by decide +kernel
theorem dX11_voids_28 : decode cX11_voids 28 = .ok (.iload 4, 2) := by decide +kernel
theorem dX11_voids_30 : decode cX11_voids 30 = .ok (.aload_n 0, 1) := by decide +kernel
theorem dX11_voids_31 : decode cX11_voids 31 = .ok (.getfield 9, 3) := by decide +kernel
theorem dX11_voids_34 : decode cX11_voids 34 = .ok (.iconst 0, 1) := by decide +kernel
theorem dX11_voids_35 : decode cX11_voids 35 = .ok (.iaload, 1) := by decide +kernel
theorem dX11_voids_36 : decode cX11_voids 36 = .ok (.if_icmp .ge 51, 3) := by decide +kernel
theorem dX11_voids_39 : decode cX11_voids 39 = .ok (.iload_n 3, 1) := by decide +kernel
theorem dX11_voids_40 : decode cX11_voids 40 = .ok (.aload_n 0, 1) := by decide +kernel
theorem dX11_voids_41 : decode cX11_voids 41 = .ok (.getfield 9, 3) := by decide +kernel
theorem dX11_voids_44 : decode cX11_voids 44 = .ok (.iload 4, 2) := by decide +kernel
theorem dX11_voids_46 : decode cX11_voids 46 = .ok (.invokestatic 52, 3) := by decide +kernel
theorem dX11_voids_49 : decode cX11_voids 49 = .ok (.ifCond .eq 29, 3) := by decide +kernel
theorem dX11_voids_52 : decode cX11_voids 52 = .ok (.aload_n 0, 1) := by decide +kernel
theorem dX11_voids_53 : decode cX11_voids 53 = .ok (.getfield 13, 3) := by decide +kernel
theorem dX11_voids_56 : decode cX11_voids 56 = .ok (.iload 4, 2) := by decide +kernel
theorem dX11_voids_58 : decode cX11_voids 58 = .ok (.invokestatic 52, 3) := by decide +kernel
theorem dX11_voids_61 : decode cX11_voids 61 = .ok (.ifCond .ne 17, 3) := by decide +kernel
theorem dX11_voids_64 : decode cX11_voids 64 = .ok (.aload_n 0, 1) := by decide +kernel
theorem dX11_voids_65 : decode cX11_voids 65 = .ok (.getfield 9, 3) := by decide +kernel
theorem dX11_voids_68 : decode cX11_voids 68 = .ok (.iload 4, 2) := by decide +kernel
theorem dX11_voids_70 : decode cX11_voids 70 = .ok (.iconst 3, 1) := by decide +kernel
theorem dX11_voids_71 : decode cX11_voids 71 = .ok (.invokestatic 48, 3) := by decide +kernel
theorem dX11_voids_74 : decode cX11_voids 74 = .ok (.iaload, 1) := by decide +kernel
theorem dX11_voids_75 : decode cX11_voids 75 = .ok (.goto 4, 3) := by decide +kernel
theorem dX11_voids_78 : decode cX11_voids 78 = .ok (.iconst 0, 1) := by decide +kernel
theorem dX11_voids_79 : decode cX11_voids 79 = .ok (.iadd, 1) := by decide +kernel
theorem dX11_voids_80 : decode cX11_voids 80 = .ok (.istore_n 3, 1) := by decide +kernel
theorem dX11_voids_81 : decode cX11_voids 81 = .ok (.iinc 4 1, 3) := by decide +kernel
theorem dX11_voids_84 : decode cX11_voids 84 = .ok (.goto (-56), 3) := by decide +kernel
theorem dX11_voids_87 : decode cX11_voids 87 = .ok (.iload_n 3, 1) := by decide +kernel
theorem dX11_voids_88 : decode cX11_voids 88 = .ok (.ireturn, 1) := by decide +kernel
set_option maxRecDepth 20000 in
theorem ggX11_hill_X11_isHere : GoodIn wsX11_hill wsX11_isHere := goodIn_r _ [5, 6, 7, 4, 8] (by decide +kernel) (by decide +kernel)
set_option maxRecDepth 20000 in
theorem gX11_hill_X11_isHere : GoodIn wsX11_hill (va_wsS RX11 52 yX11_isHere wsX11_isHere) := goodIn_app (goodIn_of _ (by decide +kernel)) ggX11_hill_X11_isHere
set_option maxRecDepth 20000 in
theorem ggX11_hill_X11_by : GoodIn wsX11_hill wsX11_by := goodIn_r _ [11] (by decide +kernel) (by decide +kernel)
set_option maxRecDepth 20000 in
theorem gX11_hill_X11_by : GoodIn wsX11_hill (va_wsS RX11 56 yX11_by wsX11_by) := goodIn_app (goodIn_of _ (by decide +kernel)) ggX11_hill_X11_by
theorem dX11_hill_0 : decode cX11_hill 0 = .ok (.iconst 0, 1) := by decide +kernel
theorem dX11_hill_1 : decode cX11_hill 1 = .ok (.istore_n 1, 1) := by decide +kernel
theorem dX11_hill_2 : decode cX11_hill 2 = .ok (.iconst 0, 1) := by decide +kernel
theorem dX11_hill_3 : decode cX11_hill 3 = .ok (.istore_n 2, 1) := by decide +kernel
theorem dX11_hill_4 : decode cX11_hill 4 = .ok (.iload_n 2, 1) := by decide +kernel
theorem dX11_hill_5 : decode cX11_hill 5 = .ok (.aload_n 0, 1) := by decide +kernel
theorem dX11_hill_6 : decode cX11_hill 6 = .ok (.getfield 9, 3) := by decide +kernel
theorem dX11_hill_9 : decode cX11_hill 9 = .ok (.iconst 0, 1) := by decide +kernel
theorem dX11_hill_10 : decode cX11_hill 10 = .ok (.iaload, 1) := by decide +kernel
theorem dX11_hill_11 : decode cX11_hill 11 = .ok (.if_icmp .ge 71, 3) := by decide +kernel
theorem dX11_hill_14 : decode cX11_hill 14 = .ok (.iconst 0, 1) := by decide +kernel
theorem dX11_hill_15 : decode cX11_hill 15 = .ok (.istore_n 3, 1) := by decide +kernel
theorem dX11_hill_16 : decode cX11_hill 16 = .ok (.iload_n 3, 1) := by decide +kernel
theorem dX11_hill_17 : decode cX11_hill 17 = .ok (.aload_n 0, 1) := by decide +kernel
theorem dX11_hill_18 : decode cX11_hill 18 = .ok (.getfield 9, 3) := by decide +kernel
theorem dX11_hill_21 : decode cX11_hill 21 = .ok (.iconst 0, 1) := by decide +kernel
theorem dX11_hill_22 : decode cX11_hill 22 = .ok (.iaload, 1) := by decide +kernel
theorem dX11_hill_23 : decode cX11_hill 23 = .ok (.if_icmp .ge 53, 3) := by decide +kernel
theorem dX11_hill_26 : decode cX11_hill 26 = .ok (.iload_n 1, 1) := by decide +kernel
theorem dX11_hill_27 : decode cX11_hill 27 = .ok (.iload_n 2, 1) := by decide +kernel
theorem dX11_hill_28 : decode cX11_hill 28 = .ok (.iload_n 3, 1) := by decide +kernel
theorem dX11_hill_29 : decode cX11_hill 29 = .ok (.if_icmp .eq 38, 3) := by decide +kernel
theorem dX11_hill_32 : decode cX11_hill 32 = .ok (.aload_n 0, 1) := by decide +kernel
theorem dX11_hill_33 : decode cX11_hill 33 = .ok (.getfield 9, 3) := by decide +kernel
theorem dX11_hill_36 : decode cX11_hill 36 = .ok (.iload_n 2, 1) := by decide +kernel
theorem dX11_hill_37 : decode cX11_hill 37 = .ok (.invokestatic 52, 3) := by decide +kernel
theorem dX11_hill_40 : decode cX11_hill 40 = .ok (.ifCond .ne 27, 3) := by decide +kernel
theorem dX11_hill_43 : decode cX11_hill 43 = .ok (.aload_n 0, 1) := by decide +kernel
theorem dX11_hill_44 : decode cX11_hill 44 = .ok (.getfield 9, 3) := by decide +kernel
theorem dX11_hill_47 : decode cX11_hill 47 = .ok (.iload_n 3, 1) := by decide +kernel
theorem dX11_hill_48 : decode cX11_hill 48 = .ok (.invokestatic 52, 3) := by decide +kernel
theorem dX11_hill_51 : decode cX11_hill 51 = .ok (.ifCond .ne 16, 3) := by decide +kernel
theorem dX11_hill_54 : decode cX11_hill 54 = .ok (.aload_n 0, 1) := by decide +kernel
theorem dX11_hill_55 : decode cX11_hill 55 = .ok (.getfield 9, 3) := by decide +kernel
theorem dX11_hill_58 : decode cX11_hill 58 = .ok (.iload_n 2, 1) := by decide +kernel
theorem dX11_hill_59 : decode cX11_hill 59 = .ok (.iload_n 3, 1) := by decide +kernel
theorem dX11_hill_60 : decode cX11_hill 60 = .ok (.invokestatic 56, 3) := by decide +kernel
theorem dX11_hill_63 : decode cX11_hill 63 = .ok (.iaload, 1) := by decide +kernel
theorem dX11_hill_64 : decode cX11_hill 64 = .ok (.goto 4, 3) := by decide +kernel
theorem dX11_hill_67 : decode cX11_hill 67 = .ok (.iconst 0, 1) := by decide +kernel
theorem dX11_hill_68 : decode cX11_hill 68 = .ok (.iadd, 1) := by decide +kernel
theorem dX11_hill_69 : decode cX11_hill 69 = .ok (.istore_n 1, 1) := by decide +kernel
theorem dX11_hill_70 : decode cX11_hill 70 = .ok (.iinc 3 1, 3) := by decide +kernel
theorem dX11_hill_73 : decode cX11_hill 73 = .ok (.goto (-57), 3) := by decide +kernel
theorem dX11_hill_76 : decode cX11_hill 76 = .ok (.iinc 2 1, 3) := by decide +kernel
theorem dX11_hill_79 : decode cX11_hill 79 = .ok (.goto (-75), 3) := by decide +kernel
theorem dX11_hill_82 : decode cX11_hill 82 = .ok (.iload_n 1, 1) := by decide +kernel
theorem dX11_hill_83 : decode cX11_hill 83 = .ok (.ireturn, 1) := by decide +kernel
set_option maxRecDepth 20000 in
theorem ggX11_speaksToAll_X11_isHere : GoodIn wsX11_speaksToAll wsX11_isHere := goodIn_r _ [5, 6, 7, 4, 8] (by decide +kernel) (by decide +kernel)
set_option maxRecDepth 20000 in
theorem gX11_speaksToAll_X11_isHere : GoodIn wsX11_speaksToAll (va_wsS RX11 52 yX11_isHere wsX11_isHere) := goodIn_app (goodIn_of _ (by decide +kernel)) ggX11_speaksToAll_X11_isHere
set_option maxRecDepth 20000 in
theorem ggX11_speaksToAll_X11_speaksIn : GoodIn wsX11_speaksToAll wsX11_speaksIn := goodIn_r _ [11, 12, 13, 4, 14, 15, 16, 17] (by decide +kernel) (by decide +kernel)
set_option maxRecDepth 20000 in
theorem gX11_speaksToAll_X11_speaksIn : GoodIn wsX11_speaksToAll (va_wsS RX11 112 yX11_speaksIn wsX11_speaksIn) := goodIn_app (goodIn_of _ (by decide +kernel)) ggX11_speaksToAll_X11_speaksIn
theorem dX11_speaksToAll_0 : decode cX11_speaksToAll 0 = .ok (.iconst 0, 1) := by decide +kernel
theorem dX11_speaksToAll_1 : decode cX11_speaksToAll 1 = .ok (.istore_n 2, 1) := by decide +kernel
theorem dX11_speaksToAll_2 : decode cX11_speaksToAll 2 = .ok (.iload_n 2, 1) := by decide +kernel
theorem dX11_speaksToAll_3 : decode cX11_speaksToAll 3 = .ok (.aload_n 0, 1) := by decide +kernel
theorem dX11_speaksToAll_4 : decode cX11_speaksToAll 4 = .ok (.getfield 13, 3) := by decide +kernel
theorem dX11_speaksToAll_7 : decode cX11_speaksToAll 7 = .ok (.iconst 0, 1) := by decide +kernel
theorem dX11_speaksToAll_8 : decode cX11_speaksToAll 8 = .ok (.iaload, 1) := by decide +kernel
theorem dX11_speaksToAll_9 : decode cX11_speaksToAll 9 = .ok (.if_icmp .ge 34, 3) := by decide +kernel
theorem dX11_speaksToAll_12 : decode cX11_speaksToAll 12 = .ok (.iload_n 2, 1) := by decide +kernel
theorem dX11_speaksToAll_13 : decode cX11_speaksToAll 13 = .ok (.iload_n 1, 1) := by decide +kernel
theorem dX11_speaksToAll_14 : decode cX11_speaksToAll 14 = .ok (.if_icmp .eq 23, 3) := by decide +kernel
theorem dX11_speaksToAll_17 : decode cX11_speaksToAll 17 = .ok (.aload_n 0, 1) := by decide +kernel
theorem dX11_speaksToAll_18 : decode cX11_speaksToAll 18 = .ok (.getfield 13, 3) := by decide +kernel
theorem dX11_speaksToAll_21 : decode cX11_speaksToAll 21 = .ok (.iload_n 2, 1) := by decide +kernel
theorem dX11_speaksToAll_22 : decode cX11_speaksToAll 22 = .ok (.invokestatic 52, 3) := by decide +kernel
theorem dX11_speaksToAll_25 : decode cX11_speaksToAll 25 = .ok (.ifCond .eq 12, 3) := by decide +kernel
theorem dX11_speaksToAll_28 : decode cX11_speaksToAll 28 = .ok (.aload_n 0, 1) := by decide +kernel
theorem dX11_speaksToAll_29 : decode cX11_speaksToAll 29 = .ok (.getfield 13, 3) := by decide +kernel
theorem dX11_speaksToAll_32 : decode cX11_speaksToAll 32 = .ok (.iload_n 1, 1) := by decide +kernel
theorem dX11_speaksToAll_33 : decode cX11_speaksToAll 33 = .ok (.iload_n 2, 1) := by decide +kernel
theorem dX11_speaksToAll_34 : decode cX11_speaksToAll 34 = .ok (.invokestatic 112, 3) := by decide +kernel
theorem dX11_speaksToAll_37 : decode cX11_speaksToAll 37 = .ok (.iinc 2 1, 3) := by decide +kernel
theorem dX11_speaksToAll_40 : decode cX11_speaksToAll 40 = .ok (.goto (-38), 3) := by decide +kernel
theorem dX11_speaksToAll_43 : decode cX11_speaksToAll 43 = .ok (.return_, 1) := by decide +kernel
set_option maxRecDepth 20000 in
theorem ggX11_hasBy_X11_copies : GoodIn wsX11_hasBy wsX11_copies := goodIn_r _ [6] (by decide +kernel) (by decide +kernel)
set_option maxRecDepth 20000 in
theorem gX11_hasBy_X11_copies : GoodIn wsX11_hasBy (va_wsS RX11 125 yX11_copies wsX11_copies) := goodIn_app (goodIn_of _ (by decide +kernel)) ggX11_hasBy_X11_copies
set_option maxRecDepth 20000 in
theorem ggX11_hasBy_X11_speaksToAll : GoodIn wsX11_hasBy wsX11_speaksToAll := goodIn_r _ [10, 2, 11, 12, 5, 13, 14, 15, 16, 17, 18, 19, 20, 21, 22, 23, 24, 25, 47, 48, 49, 50, 51, 52, 53, 54, 55, 56, 57, 58, 59] (by decide +kernel) (by decide +kernel)
set_option maxRecDepth 20000 in
theorem gX11_hasBy_X11_speaksToAll : GoodIn wsX11_hasBy (wsV RX11 172 RX11 yX11_speaksToAll wsX11_speaksToAll) := goodIn_app (goodIn_of _ (by decide +kernel)) ggX11_hasBy_X11_speaksToAll
set_option maxRecDepth 20000 in
theorem ggX11_hasBy_X11_weeksOn : GoodIn wsX11_hasBy wsX11_weeksOn := goodIn_r _ [28, 29, 30, 5, 31, 32, 33, 34, 14, 15, 16, 11, 12, 13, 20, 21, 22, 23, 24, 25, 35, 36, 37, 38, 39, 40, 41, 42, 43, 44, 45, 46] (by decide +kernel) (by decide +kernel)
set_option maxRecDepth 20000 in
theorem gX11_hasBy_X11_weeksOn : GoodIn wsX11_hasBy (va_wsS RX11 119 yX11_weeksOn wsX11_weeksOn) := goodIn_app (goodIn_of _ (by decide +kernel)) ggX11_hasBy_X11_weeksOn
set_option maxRecDepth 20000 in
theorem ggX11_hasBy_X11_knownIn : GoodIn wsX11_hasBy wsX11_knownIn := goodIn_r _ [43, 11, 12, 5, 13, 14, 15, 16, 20, 21, 22] (by decide +kernel) (by decide +kernel)
set_option maxRecDepth 20000 in
theorem gX11_hasBy_X11_knownIn : GoodIn wsX11_hasBy (va_wsS RX11 62 yX11_knownIn wsX11_knownIn) := goodIn_app (goodIn_of _ (by decide +kernel)) ggX11_hasBy_X11_knownIn
theorem dX11_hasBy_0 : decode cX11_hasBy 0 = .ok (.aload_n 0, 1) := by decide +kernel
theorem dX11_hasBy_1 : decode cX11_hasBy 1 = .ok (.getfield 9, 3) := by decide +kernel
theorem dX11_hasBy_4 : decode cX11_hasBy 4 = .ok (.aload_n 0, 1) := by decide +kernel
theorem dX11_hasBy_5 : decode cX11_hasBy 5 = .ok (.getfield 13, 3) := by decide +kernel
theorem dX11_hasBy_8 : decode cX11_hasBy 8 = .ok (.invokestatic 125, 3) := by decide +kernel
theorem dX11_hasBy_11 : decode cX11_hasBy 11 = .ok (.iload_n 3, 1) := by decide +kernel
theorem dX11_hasBy_12 : decode cX11_hasBy 12 = .ok (.iconst 1, 1) := by decide +kernel
theorem dX11_hasBy_13 : decode cX11_hasBy 13 = .ok (.if_icmp .ne 8, 3) := by decide +kernel
theorem dX11_hasBy_16 : decode cX11_hasBy 16 = .ok (.aload_n 0, 1) := by decide +kernel
theorem dX11_hasBy_17 : decode cX11_hasBy 17 = .ok (.iload_n 2, 1) := by decide +kernel
theorem dX11_hasBy_18 : decode cX11_hasBy 18 = .ok (.invokevirtual 172, 3) := by decide +kernel
theorem dX11_hasBy_21 : decode cX11_hasBy 21 = .ok (.iload 5, 2) := by decide +kernel
theorem dX11_hasBy_23 : decode cX11_hasBy 23 = .ok (.iconst 1, 1) := by decide +kernel
theorem dX11_hasBy_24 : decode cX11_hasBy 24 = .ok (.if_icmp .ne 9, 3) := by decide +kernel
theorem dX11_hasBy_27 : decode cX11_hasBy 27 = .ok (.aload_n 0, 1) := by decide +kernel
theorem dX11_hasBy_28 : decode cX11_hasBy 28 = .ok (.iload 4, 2) := by decide +kernel
theorem dX11_hasBy_30 : decode cX11_hasBy 30 = .ok (.invokevirtual 172, 3) := by decide +kernel
theorem dX11_hasBy_33 : decode cX11_hasBy 33 = .ok (.aload_n 0, 1) := by decide +kernel
theorem dX11_hasBy_34 : decode cX11_hasBy 34 = .ok (.getfield 13, 3) := by decide +kernel
theorem dX11_hasBy_37 : decode cX11_hasBy 37 = .ok (.iload 6, 2) := by decide +kernel
theorem dX11_hasBy_39 : decode cX11_hasBy 39 = .ok (.invokestatic 119, 3) := by decide +kernel
theorem dX11_hasBy_42 : decode cX11_hasBy 42 = .ok (.aload_n 0, 1) := by decide +kernel
theorem dX11_hasBy_43 : decode cX11_hasBy 43 = .ok (.getfield 13, 3) := by decide +kernel
theorem dX11_hasBy_46 : decode cX11_hasBy 46 = .ok (.iload_n 1, 1) := by decide +kernel
theorem dX11_hasBy_47 : decode cX11_hasBy 47 = .ok (.invokestatic 62, 3) := by decide +kernel
theorem dX11_hasBy_50 : decode cX11_hasBy 50 = .ok (.bipush 30, 2) := by decide +kernel
theorem dX11_hasBy_52 : decode cX11_hasBy 52 = .ok (.iload_n 1, 1) := by decide +kernel
theorem dX11_hasBy_53 : decode cX11_hasBy 53 = .ok (.iload_n 2, 1) := by decide +kernel
theorem dX11_hasBy_54 : decode cX11_hasBy 54 = .ok (.if_icmp .ne 7, 3) := by decide +kernel
theorem dX11_hasBy_57 : decode cX11_hasBy 57 = .ok (.iload_n 3, 1) := by decide +kernel
theorem dX11_hasBy_58 : decode cX11_hasBy 58 = .ok (.goto 5, 3) := by decide +kernel
theorem dX11_hasBy_61 : decode cX11_hasBy 61 = .ok (.iload 5, 2) := by decide +kernel
theorem dX11_hasBy_63 : decode cX11_hasBy 63 = .ok (.imul, 1) := by decide +kernel
theorem dX11_hasBy_64 : decode cX11_hasBy 64 = .ok (.isub, 1) := by decide +kernel
theorem dX11_hasBy_65 : decode cX11_hasBy 65 = .ok (.ireturn, 1) := by decide +kernel
set_option maxRecDepth 20000 in
theorem ggX11_two_X11_areTwo : GoodIn wsX11_two wsX11_areTwo := goodIn_r _ [6, 7, 8, 9, 5, 10, 1, 11, 12, 13, 70, 71, 72, 73, 74, 75, 76, 77, 78, 79, 80, 81, 82] (by decide +kernel) (by decide +kernel)
set_option maxRecDepth 20000 in
theorem gX11_two_X11_areTwo : GoodIn wsX11_two (wsV RX11 109 RX11 yX11_areTwo wsX11_areTwo) := goodIn_app (goodIn_of _ (by decide +kernel)) ggX11_two_X11_areTwo
set_option maxRecDepth 20000 in
theorem ggX11_two_X11_wrongBy : GoodIn wsX11_two wsX11_wrongBy := goodIn_r _ [16] (by decide +kernel) (by decide +kernel)
set_option maxRecDepth 20000 in
theorem gX11_two_X11_wrongBy : GoodIn wsX11_two (va_wsS RX11 132 yX11_wrongBy wsX11_wrongBy) := goodIn_app (goodIn_of _ (by decide +kernel)) ggX11_two_X11_wrongBy
set_option maxRecDepth 20000 in
theorem ggX11_two_X11_isHere : GoodIn wsX11_two wsX11_isHere := goodIn_r _ [19, 20, 21, 5, 22] (by decide +kernel) (by decide +kernel)
set_option maxRecDepth 20000 in
theorem gX11_two_X11_isHere : GoodIn wsX11_two (va_wsS RX11 52 yX11_isHere wsX11_isHere) := goodIn_app (goodIn_of _ (by decide +kernel)) ggX11_two_X11_isHere
set_option maxRecDepth 20000 in
theorem ggX11_two_X11_no : GoodIn wsX11_two wsX11_no := goodIn_r _ [26, 27, 70, 71, 72, 73, 74, 75, 76, 77, 78, 79, 80, 81, 82] (by decide +kernel) (by decide +kernel)
set_option maxRecDepth 20000 in
theorem gX11_two_X11_no : GoodIn wsX11_two (wsV RX11 36 RX11 yX11_no wsX11_no) := goodIn_app (goodIn_of _ (by decide +kernel)) ggX11_two_X11_no
set_option maxRecDepth 20000 in
theorem ggX11_two_X11_hasBy : GoodIn wsX11_two wsX11_hasBy := goodIn_r _ [31, 1, 32, 33, 34, 5, 35, 36, 37, 38, 39, 17, 18, 19, 20, 21, 22, 40, 41, 42, 43, 44, 45, 46, 47, 48, 49, 50, 51, 52, 53, 54, 55, 56, 57, 58, 59, 60, 61, 62, 63, 64, 65, 66, 67, 68, 69, 70, 71, 72, 73, 74, 75, 76, 77, 78, 79, 80, 81, 82] (by decide +kernel) (by decide +kernel)
set_option maxRecDepth 20000 in
theorem gX11_two_X11_hasBy : GoodIn wsX11_two (wsV RX11 175 RX11 yX11_hasBy wsX11_hasBy) := goodIn_app (goodIn_of _ (by decide +kernel)) ggX11_two_X11_hasBy
theorem dX11_two_0 : decode cX11_two 0 = .ok (.aload_n 0, 1) := by decide +kernel
theorem dX11_two_1 : decode cX11_two 1 = .ok (.iload_n 1, 1) := by decide +kernel
theorem dX11_two_2 : decode cX11_two 2 = .ok (.iload_n 2, 1) := by decide +kernel
theorem dX11_two_3 : decode cX11_two 3 = .ok (.invokevirtual 109, 3) := by decide +kernel
theorem dX11_two_6 : decode cX11_two 6 = .ok (.ifCond .eq 13, 3) := by decide +kernel
theorem dX11_two_9 : decode cX11_two 9 = .ok (.iload_n 3, 1) := by decide +kernel
theorem dX11_two_10 : decode cX11_two 10 = .ok (.iconst 0, 1) := by decide +kernel
theorem dX11_two_11 : decode cX11_two 11 = .ok (.bipush 30, 2) := by decide +kernel
theorem dX11_two_13 : decode cX11_two 13 = .ok (.invokestatic 132, 3) := by decide +kernel
theorem dX11_two_16 : decode cX11_two 16 = .ok (.goto 4, 3) := by decide +kernel
theorem dX11_two_19 : decode cX11_two 19 = .ok (.iconst (-1), 1) := by decide +kernel
theorem dX11_two_20 : decode cX11_two 20 = .ok (.istore 4, 2) := by decide +kernel
theorem dX11_two_22 : decode cX11_two 22 = .ok (.iload 4, 2) := by decide +kernel
theorem dX11_two_24 : decode cX11_two 24 = .ok (.ifCond .ne 29, 3) := by decide +kernel
theorem dX11_two_27 : decode cX11_two 27 = .ok (.aload_n 0, 1) := by decide +kernel
theorem dX11_two_28 : decode cX11_two 28 = .ok (.getfield 9, 3) := by decide +kernel
theorem dX11_two_31 : decode cX11_two 31 = .ok (.iload_n 1, 1) := by decide +kernel
theorem dX11_two_32 : decode cX11_two 32 = .ok (.invokestatic 52, 3) := by decide +kernel
theorem dX11_two_35 : decode cX11_two 35 = .ok (.ifCond .eq 14, 3) := by decide +kernel
theorem dX11_two_38 : decode cX11_two 38 = .ok (.aload_n 0, 1) := by decide +kernel
theorem dX11_two_39 : decode cX11_two 39 = .ok (.getfield 9, 3) := by decide +kernel
theorem dX11_two_42 : decode cX11_two 42 = .ok (.iload_n 2, 1) := by decide +kernel
theorem dX11_two_43 : decode cX11_two 43 = .ok (.invokestatic 52, 3) := by decide +kernel
theorem dX11_two_46 : decode cX11_two 46 = .ok (.ifCond .ne 7, 3) := by decide +kernel
theorem dX11_two_49 : decode cX11_two 49 = .ok (.bipush (-3), 2) := by decide +kernel
theorem dX11_two_51 : decode cX11_two 51 = .ok (.istore 4, 2) := by decide +kernel
theorem dX11_two_53 : decode cX11_two 53 = .ok (.iload 4, 2) := by decide +kernel
theorem dX11_two_55 : decode cX11_two 55 = .ok (.ifCond .eq 10, 3) := by decide +kernel
theorem dX11_two_58 : decode cX11_two 58 = .ok (.aload_n 0, 1) := by decide +kernel
theorem dX11_two_59 : decode cX11_two 59 = .ok (.iload 4, 2) := by decide +kernel
theorem dX11_two_61 : decode cX11_two 61 = .ok (.invokevirtual 36, 3) := by decide +kernel
theorem dX11_two_64 : decode cX11_two 64 = .ok (.ireturn, 1) := by decide +kernel
theorem dX11_two_65 : decode cX11_two 65 = .ok (.iconst 0, 1) := by decide +kernel
theorem dX11_two_66 : decode cX11_two 66 = .ok (.istore 5, 2) := by decide +kernel
theorem dX11_two_68 : decode cX11_two 68 = .ok (.iload 5, 2) := by decide +kernel
theorem dX11_two_70 : decode cX11_two 70 = .ok (.iconst 4, 1) := by decide +kernel
theorem dX11_two_71 : decode cX11_two 71 = .ok (.if_icmp .ge 88, 3) := by decide +kernel
theorem dX11_two_74 : decode cX11_two 74 = .ok (.iload 5, 2) := by decide +kernel
theorem dX11_two_76 : decode cX11_two 76 = .ok (.iconst 2, 1) := by decide +kernel
theorem dX11_two_77 : decode cX11_two 77 = .ok (.idiv, 1) := by decide +kernel
theorem dX11_two_78 : decode cX11_two 78 = .ok (.istore 6, 2) := by decide +kernel
theorem dX11_two_80 : decode cX11_two 80 = .ok (.iload 5, 2) := by decide +kernel
theorem dX11_two_82 : decode cX11_two 82 = .ok (.iconst 2, 1) := by decide +kernel
theorem dX11_two_83 : decode cX11_two 83 = .ok (.irem, 1) := by decide +kernel
theorem dX11_two_84 : decode cX11_two 84 = .ok (.istore 7, 2) := by decide +kernel
theorem dX11_two_86 : decode cX11_two 86 = .ok (.aload_n 0, 1) := by decide +kernel
theorem dX11_two_87 : decode cX11_two 87 = .ok (.iload_n 1, 1) := by decide +kernel
theorem dX11_two_88 : decode cX11_two 88 = .ok (.iload_n 1, 1) := by decide +kernel
theorem dX11_two_89 : decode cX11_two 89 = .ok (.iconst 1, 1) := by decide +kernel
theorem dX11_two_90 : decode cX11_two 90 = .ok (.iload 6, 2) := by decide +kernel
theorem dX11_two_92 : decode cX11_two 92 = .ok (.isub, 1) := by decide +kernel
theorem dX11_two_93 : decode cX11_two 93 = .ok (.iload_n 2, 1) := by decide +kernel
theorem dX11_two_94 : decode cX11_two 94 = .ok (.iload 7, 2) := by decide +kernel
theorem dX11_two_96 : decode cX11_two 96 = .ok (.iload_n 3, 1) := by decide +kernel
theorem dX11_two_97 : decode cX11_two 97 = .ok (.invokevirtual 175, 3) := by decide +kernel
theorem dX11_two_100 : decode cX11_two 100 = .ok (.aload_n 0, 1) := by decide +kernel
theorem dX11_two_101 : decode cX11_two 101 = .ok (.iload_n 1, 1) := by decide +kernel
theorem dX11_two_102 : decode cX11_two 102 = .ok (.iload_n 1, 1) := by decide +kernel
theorem dX11_two_103 : decode cX11_two 103 = .ok (.iload 6, 2) := by decide +kernel
theorem dX11_two_105 : decode cX11_two 105 = .ok (.iload_n 2, 1) := by decide +kernel
theorem dX11_two_106 : decode cX11_two 106 = .ok (.iload 7, 2) := by decide +kernel
theorem dX11_two_108 : decode cX11_two 108 = .ok (.iload_n 3, 1) := by decide +kernel
theorem dX11_two_109 : decode cX11_two 109 = .ok (.invokevirtual 175, 3) := by decide +kernel
theorem dX11_two_112 : decode cX11_two 112 = .ok (.if_icmp .gt 41, 3) := by decide +kernel
theorem dX11_two_115 : decode cX11_two 115 = .ok (.aload_n 0, 1) := by decide +kernel
theorem dX11_two_116 : decode cX11_two 116 = .ok (.iload_n 2, 1) := by decide +kernel
theorem dX11_two_117 : decode cX11_two 117 = .ok (.iload_n 1, 1) := by decide +kernel
theorem dX11_two_118 : decode cX11_two 118 = .ok (.iload 6, 2) := by decide +kernel
theorem dX11_two_120 : decode cX11_two 120 = .ok (.iload_n 2, 1) := by decide +kernel
theorem dX11_two_121 : decode cX11_two 121 = .ok (.iconst 1, 1) := by decide +kernel
theorem dX11_two_122 : decode cX11_two 122 = .ok (.iload 7, 2) := by decide +kernel
theorem dX11_two_124 : decode cX11_two 124 = .ok (.isub, 1) := by decide +kernel
theorem dX11_two_125 : decode cX11_two 125 = .ok (.iload_n 3, 1) := by decide +kernel
theorem dX11_two_126 : decode cX11_two 126 = .ok (.invokevirtual 175, 3) := by decide +kernel
theorem dX11_two_129 : decode cX11_two 129 = .ok (.aload_n 0, 1) := by decide +kernel
theorem dX11_two_130 : decode cX11_two 130 = .ok (.iload_n 2, 1) := by decide +kernel
theorem dX11_two_131 : decode cX11_two 131 = .ok (.iload_n 1, 1) := by decide +kernel
theorem dX11_two_132 : decode cX11_two 132 = .ok (.iload 6, 2) := by decide +kernel
theorem dX11_two_134 : decode cX11_two 134 = .ok (.iload_n 2, 1) := by decide +kernel
theorem dX11_two_135 : decode cX11_two 135 = .ok (.iload 7, 2) := by decide +kernel
theorem dX11_two_137 : decode cX11_two 137 = .ok (.iload_n 3, 1) := by decide +kernel
theorem dX11_two_138 : decode cX11_two 138 = .ok (.invokevirtual 175, 3) := by decide +kernel
theorem dX11_two_141 : decode cX11_two 141 = .ok (.if_icmp .gt 12, 3) := by decide +kernel
theorem dX11_two_144 : decode cX11_two 144 = .ok (.bipush 10, 2) := by decide +kernel
theorem dX11_two_146 : decode cX11_two 146 = .ok (.iload 6, 2) := by decide +kernel
theorem dX11_two_148 : decode cX11_two 148 = .ok (.imul, 1) := by decide +kernel
theorem dX11_two_149 : decode cX11_two 149 = .ok (.iload 7, 2) := by decide +kernel
theorem dX11_two_151 : decode cX11_two 151 = .ok (.iadd, 1) := by decide +kernel
theorem dX11_two_152 : decode cX11_two 152 = .ok (.ireturn, 1) := by decide +kernel
theorem dX11_two_153 : decode cX11_two 153 = .ok (.iinc 5 1, 3) := by decide +kernel
theorem dX11_two_156 : decode cX11_two 156 = .ok (.goto (-88), 3) := by decide +kernel
theorem dX11_two_159 : decode cX11_two 159 = .ok (.bipush (-9), 2) := by decide +kernel
theorem dX11_two_161 : decode cX11_two 161 = .ok (.ireturn, 1) := by decide +kernel
theorem dX11_gcd_0 : decode cX11_gcd 0 = .ok (.lload_n 0, 1) := by decide +kernel
theorem dX11_gcd_1 : decode cX11_gcd 1 = .ok (.lstore 4, 2) := by decide +kernel
theorem dX11_gcd_3 : decode cX11_gcd 3 = .ok (.lload_n 2, 1) := by decide +kernel
theorem dX11_gcd_4 : decode cX11_gcd 4 = .ok (.lstore 6, 2) := by decide +kernel
theorem dX11_gcd_6 : decode cX11_gcd 6 = .ok (.lload 6, 2) := by decide +kernel
theorem dX11_gcd_8 : decode cX11_gcd 8 = .ok (.lconst 0, 1) := by decide +kernel
theorem dX11_gcd_9 : decode cX11_gcd 9 = .ok (.lcmp, 1) := by decide +kernel
theorem dX11_gcd_10 : decode cX11_gcd 10 = .ok (.ifCond .eq 21, 3) := by decide +kernel
theorem dX11_gcd_13 : decode cX11_gcd 13 = .ok (.lload 4, 2) := by decide +kernel
theorem dX11_gcd_15 : decode cX11_gcd 15 = .ok (.lload 6, 2) := by decide +kernel
theorem dX11_gcd_17 : decode cX11_gcd 17 = .ok (.lrem, 1) := by decide +kernel
theorem dX11_gcd_18 : decode cX11_gcd 18 = .ok (.lstore 8, 2) := by decide +kernel
theorem dX11_gcd_20 : decode cX11_gcd 20 = .ok (.lload 6, 2) := by decide +kernel
theorem dX11_gcd_22 : decode cX11_gcd 22 = .ok (.lstore 4, 2) := by decide +kernel
theorem dX11_gcd_24 : decode cX11_gcd 24 = .ok (.lload 8, 2) := by decide +kernel
theorem dX11_gcd_26 : decode cX11_gcd 26 = .ok (.lstore 6, 2) := by decide +kernel
theorem dX11_gcd_28 : decode cX11_gcd 28 = .ok (.goto (-22), 3) := by decide +kernel
theorem dX11_gcd_31 : decode cX11_gcd 31 = .ok (.lload 4, 2) := by decide +kernel
theorem dX11_gcd_33 : decode cX11_gcd 33 = .ok (.lreturn, 1) := by decide +kernel
set_option maxRecDepth 20000 in
theorem ggX11_partOf_X11_gcd : GoodIn wsX11_partOf wsX11_gcd := goodIn_r _ [4] (by decide +kernel) (by decide +kernel)
set_option maxRecDepth 20000 in
theorem gX11_partOf_X11_gcd : GoodIn wsX11_partOf (va_wsS RX11 179 yX11_gcd wsX11_gcd) := goodIn_app (goodIn_of _ (by decide +kernel)) ggX11_partOf_X11_gcd
theorem dX11_partOf_0 : decode cX11_partOf 0 = .ok (.lload_n 0, 1) := by decide +kernel
theorem dX11_partOf_1 : decode cX11_partOf 1 = .ok (.lconst 0, 1) := by decide +kernel
theorem dX11_partOf_2 : decode cX11_partOf 2 = .ok (.lcmp, 1) := by decide +kernel
theorem dX11_partOf_3 : decode cX11_partOf 3 = .ok (.ifCond .ne 7, 3) := by decide +kernel
theorem dX11_partOf_6 : decode cX11_partOf 6 = .ok (.iload 4, 2) := by decide +kernel
theorem dX11_partOf_8 : decode cX11_partOf 8 = .ok (.i2l, 1) := by decide +kernel
theorem dX11_partOf_9 : decode cX11_partOf 9 = .ok (.lreturn, 1) := by decide +kernel
theorem dX11_partOf_10 : decode cX11_partOf 10 = .ok (.iload 4, 2) := by decide +kernel
theorem dX11_partOf_12 : decode cX11_partOf 12 = .ok (.ifCond .ne 7, 3) := by decide +kernel
theorem dX11_partOf_15 : decode cX11_partOf 15 = .ok (.lload_n 0, 1) := by decide +kernel
theorem dX11_partOf_16 : decode cX11_partOf 16 = .ok (.goto 4, 3) := by decide +kernel
theorem dX11_partOf_19 : decode cX11_partOf 19 = .ok (.lload_n 2, 1) := by decide +kernel
theorem dX11_partOf_20 : decode cX11_partOf 20 = .ok (.lload_n 0, 1) := by decide +kernel
theorem dX11_partOf_21 : decode cX11_partOf 21 = .ok (.lload_n 2, 1) := by decide +kernel
theorem dX11_partOf_22 : decode cX11_partOf 22 = .ok (.invokestatic 179, 3) := by decide +kernel
theorem dX11_partOf_25 : decode cX11_partOf 25 = .ok (.ldiv, 1) := by decide +kernel
theorem dX11_partOf_26 : decode cX11_partOf 26 = .ok (.lreturn, 1) := by decide +kernel
set_option maxRecDepth 20000 in
theorem ggX11_feasts_X11_isHere : GoodIn wsX11_feasts wsX11_isHere := goodIn_r _ [4, 5, 6, 3, 7] (by decide +kernel) (by decide +kernel)
set_option maxRecDepth 20000 in
theorem gX11_feasts_X11_isHere : GoodIn wsX11_feasts (va_wsS RX11 52 yX11_isHere wsX11_isHere) := goodIn_app (goodIn_of _ (by decide +kernel)) ggX11_feasts_X11_isHere
set_option maxRecDepth 20000 in
theorem ggX11_feasts_X11_by : GoodIn wsX11_feasts wsX11_by := goodIn_r _ [10] (by decide +kernel) (by decide +kernel)
set_option maxRecDepth 20000 in
theorem gX11_feasts_X11_by : GoodIn wsX11_feasts (va_wsS RX11 56 yX11_by wsX11_by) := goodIn_app (goodIn_of _ (by decide +kernel)) ggX11_feasts_X11_by
set_option maxRecDepth 20000 in
theorem ggX11_feasts_X11_held : GoodIn wsX11_feasts wsX11_held := goodIn_r _ [13] (by decide +kernel) (by decide +kernel)
set_option maxRecDepth 20000 in
theorem gX11_feasts_X11_held : GoodIn wsX11_feasts (va_wsS RX11 69 yX11_held wsX11_held) := goodIn_app (goodIn_of _ (by decide +kernel)) ggX11_feasts_X11_held
theorem dX11_feasts_0 : decode cX11_feasts 0 = .ok (.iconst 0, 1) := by decide +kernel
theorem dX11_feasts_1 : decode cX11_feasts 1 = .ok (.istore_n 1, 1) := by decide +kernel
theorem dX11_feasts_2 : decode cX11_feasts 2 = .ok (.iload_n 1, 1) := by decide +kernel
theorem dX11_feasts_3 : decode cX11_feasts 3 = .ok (.aload_n 0, 1) := by decide +kernel
theorem dX11_feasts_4 : decode cX11_feasts 4 = .ok (.iconst 0, 1) := by decide +kernel
theorem dX11_feasts_5 : decode cX11_feasts 5 = .ok (.iaload, 1) := by decide +kernel
theorem dX11_feasts_6 : decode cX11_feasts 6 = .ok (.if_icmp .ge 64, 3) := by decide +kernel
theorem dX11_feasts_9 : decode cX11_feasts 9 = .ok (.iconst 0, 1) := by decide +kernel
theorem dX11_feasts_10 : decode cX11_feasts 10 = .ok (.istore_n 2, 1) := by decide +kernel
theorem dX11_feasts_11 : decode cX11_feasts 11 = .ok (.iload_n 2, 1) := by decide +kernel
theorem dX11_feasts_12 : decode cX11_feasts 12 = .ok (.aload_n 0, 1) := by decide +kernel
theorem dX11_feasts_13 : decode cX11_feasts 13 = .ok (.iconst 0, 1) := by decide +kernel
theorem dX11_feasts_14 : decode cX11_feasts 14 = .ok (.iaload, 1) := by decide +kernel
theorem dX11_feasts_15 : decode cX11_feasts 15 = .ok (.if_icmp .ge 49, 3) := by decide +kernel
theorem dX11_feasts_18 : decode cX11_feasts 18 = .ok (.iload_n 1, 1) := by decide +kernel
theorem dX11_feasts_19 : decode cX11_feasts 19 = .ok (.iload_n 2, 1) := by decide +kernel
theorem dX11_feasts_20 : decode cX11_feasts 20 = .ok (.if_icmp .eq 38, 3) := by decide +kernel
theorem dX11_feasts_23 : decode cX11_feasts 23 = .ok (.aload_n 0, 1) := by decide +kernel
theorem dX11_feasts_24 : decode cX11_feasts 24 = .ok (.iload_n 1, 1) := by decide +kernel
theorem dX11_feasts_25 : decode cX11_feasts 25 = .ok (.invokestatic 52, 3) := by decide +kernel
theorem dX11_feasts_28 : decode cX11_feasts 28 = .ok (.ifCond .eq 30, 3) := by decide +kernel
theorem dX11_feasts_31 : decode cX11_feasts 31 = .ok (.aload_n 0, 1) := by decide +kernel
theorem dX11_feasts_32 : decode cX11_feasts 32 = .ok (.iload_n 2, 1) := by decide +kernel
theorem dX11_feasts_33 : decode cX11_feasts 33 = .ok (.invokestatic 52, 3) := by decide +kernel
theorem dX11_feasts_36 : decode cX11_feasts 36 = .ok (.ifCond .eq 22, 3) := by decide +kernel
theorem dX11_feasts_39 : decode cX11_feasts 39 = .ok (.aload_n 0, 1) := by decide +kernel
theorem dX11_feasts_40 : decode cX11_feasts 40 = .ok (.iload_n 1, 1) := by decide +kernel
theorem dX11_feasts_41 : decode cX11_feasts 41 = .ok (.iload_n 2, 1) := by decide +kernel
theorem dX11_feasts_42 : decode cX11_feasts 42 = .ok (.invokestatic 56, 3) := by decide +kernel
theorem dX11_feasts_45 : decode cX11_feasts 45 = .ok (.aload_n 0, 1) := by decide +kernel
theorem dX11_feasts_46 : decode cX11_feasts 46 = .ok (.iload_n 1, 1) := by decide +kernel
theorem dX11_feasts_47 : decode cX11_feasts 47 = .ok (.iload_n 2, 1) := by decide +kernel
theorem dX11_feasts_48 : decode cX11_feasts 48 = .ok (.invokestatic 56, 3) := by decide +kernel
theorem dX11_feasts_51 : decode cX11_feasts 51 = .ok (.iaload, 1) := by decide +kernel
theorem dX11_feasts_52 : decode cX11_feasts 52 = .ok (.iconst 2, 1) := by decide +kernel
theorem dX11_feasts_53 : decode cX11_feasts 53 = .ok (.iadd, 1) := by decide +kernel
theorem dX11_feasts_54 : decode cX11_feasts 54 = .ok (.invokestatic 69, 3) := by decide +kernel
theorem dX11_feasts_57 : decode cX11_feasts 57 = .ok (.iastore, 1) := by decide +kernel
theorem dX11_feasts_58 : decode cX11_feasts 58 = .ok (.iinc 2 1, 3) := by decide +kernel
theorem dX11_feasts_61 : decode cX11_feasts 61 = .ok (.goto (-50), 3) := by decide +kernel
theorem dX11_feasts_64 : decode cX11_feasts 64 = .ok (.iinc 1 1, 3) := by decide +kernel
theorem dX11_feasts_67 : decode cX11_feasts 67 = .ok (.goto (-65), 3) := by decide +kernel
theorem dX11_feasts_70 : decode cX11_feasts 70 = .ok (.return_, 1) := by decide +kernel
set_option maxRecDepth 20000 in
theorem ggX11_feast_X11_isOne : GoodIn wsX11_feast wsX11_isOne := goodIn_r _ [7, 1, 8, 9, 6, 10, 66, 67, 68, 69, 70, 71, 72, 73, 74, 75, 76, 77, 78] (by decide +kernel) (by decide +kernel)
set_option maxRecDepth 20000 in
theorem gX11_feast_X11_isOne : GoodIn wsX11_feast (wsV RX11 44 RX11 yX11_isOne wsX11_isOne) := goodIn_app (goodIn_of _ (by decide +kernel)) ggX11_feast_X11_isOne
set_option maxRecDepth 20000 in
theorem ggX11_feast_X11_noWide : GoodIn wsX11_feast wsX11_noWide := goodIn_r _ [14, 15, 16, 17, 18, 6, 19, 20, 66, 67, 68, 69, 70, 71, 72, 73, 74, 75, 76, 77, 78] (by decide +kernel) (by decide +kernel)
set_option maxRecDepth 20000 in
theorem gX11_feast_X11_noWide : GoodIn wsX11_feast (wsV RX11 183 RX11 yX11_noWide wsX11_noWide) := goodIn_app (goodIn_of _ (by decide +kernel)) ggX11_feast_X11_noWide
set_option maxRecDepth 20000 in
theorem ggX11_feast_X11_isIn : GoodIn wsX11_feast wsX11_isIn := goodIn_r _ [10] (by decide +kernel) (by decide +kernel)
set_option maxRecDepth 20000 in
theorem gX11_feast_X11_isIn : GoodIn wsX11_feast (va_wsS RX11 40 yX11_isIn wsX11_isIn) := goodIn_app (goodIn_of _ (by decide +kernel)) ggX11_feast_X11_isIn
set_option maxRecDepth 20000 in
theorem ggX11_feast_X11_copies : GoodIn wsX11_feast wsX11_copies := goodIn_r _ [23] (by decide +kernel) (by decide +kernel)
set_option maxRecDepth 20000 in
theorem gX11_feast_X11_copies : GoodIn wsX11_feast (va_wsS RX11 125 yX11_copies wsX11_copies) := goodIn_app (goodIn_of _ (by decide +kernel)) ggX11_feast_X11_copies
set_option maxRecDepth 20000 in
theorem ggX11_feast_X11_has : GoodIn wsX11_feast wsX11_has := goodIn_r _ [26] (by decide +kernel) (by decide +kernel)
set_option maxRecDepth 20000 in
theorem gX11_feast_X11_has : GoodIn wsX11_feast (va_wsS RX11 169 yX11_has wsX11_has) := goodIn_app (goodIn_of _ (by decide +kernel)) ggX11_feast_X11_has
set_option maxRecDepth 20000 in
theorem ggX11_feast_X11_feasts : GoodIn wsX11_feast wsX11_feasts := goodIn_r _ [29, 30, 31, 6, 32, 33, 34, 35, 36, 37, 38, 39, 40, 41] (by decide +kernel) (by decide +kernel)
set_option maxRecDepth 20000 in
theorem gX11_feast_X11_feasts : GoodIn wsX11_feast (va_wsS RX11 187 yX11_feasts wsX11_feasts) := goodIn_app (goodIn_of _ (by decide +kernel)) ggX11_feast_X11_feasts
set_option maxRecDepth 20000 in
theorem ggX11_feast_X11_week : GoodIn wsX11_feast wsX11_week := goodIn_r _ [44, 45, 46, 6, 47, 33, 34, 35, 30, 31, 32, 36, 37, 38, 39, 40, 41, 48, 49, 50, 51, 52, 53, 54, 55, 56, 57, 58, 59] (by decide +kernel) (by decide +kernel)
set_option maxRecDepth 20000 in
theorem gX11_feast_X11_week : GoodIn wsX11_feast (va_wsS RX11 80 yX11_week wsX11_week) := goodIn_app (goodIn_of _ (by decide +kernel)) ggX11_feast_X11_week
set_option maxRecDepth 20000 in
theorem ggX11_feast_X11_isHere : GoodIn wsX11_feast wsX11_isHere := goodIn_r _ [32, 33, 34, 6, 35] (by decide +kernel) (by decide +kernel)
set_option maxRecDepth 20000 in
theorem gX11_feast_X11_isHere : GoodIn wsX11_feast (va_wsS RX11 52 yX11_isHere wsX11_isHere) := goodIn_app (goodIn_of _ (by decide +kernel)) ggX11_feast_X11_isHere
set_option maxRecDepth 20000 in
theorem ggX11_feast_X11_partOf : GoodIn wsX11_feast wsX11_partOf := goodIn_r _ [62, 63, 64, 6, 65] (by decide +kernel) (by decide +kernel)
set_option maxRecDepth 20000 in
theorem gX11_feast_X11_partOf : GoodIn wsX11_feast (va_wsS RX11 190 yX11_partOf wsX11_partOf) := goodIn_app (goodIn_of _ (by decide +kernel)) ggX11_feast_X11_partOf
theorem dX11_feast_0 : decode cX11_feast 0 = .ok (.aload_n 0, 1) := by decide +kernel
theorem dX11_feast_1 : decode cX11_feast 1 = .ok (.iload_n 1, 1) := by decide +kernel
theorem dX11_feast_2 : decode cX11_feast 2 = .ok (.invokevirtual 44, 3) := by decide +kernel
theorem dX11_feast_5 : decode cX11_feast 5 = .ok (.ifCond .ne 9, 3) := by decide +kernel
theorem dX11_feast_8 : decode cX11_feast 8 = .ok (.aload_n 0, 1) := by decide +kernel
theorem dX11_feast_9 : decode cX11_feast 9 = .ok (.iconst (-1), 1) := by decide +kernel
theorem dX11_feast_10 : decode cX11_feast 10 = .ok (.invokevirtual 183, 3) := by decide +kernel
theorem dX11_feast_13 : decode cX11_feast 13 = .ok (.lreturn, 1) := by decide +kernel
theorem dX11_feast_14 : decode cX11_feast 14 = .ok (.iload_n 2, 1) := by decide +kernel
theorem dX11_feast_15 : decode cX11_feast 15 = .ok (.ifCond .lt 8, 3) := by decide +kernel
theorem dX11_feast_18 : decode cX11_feast 18 = .ok (.iload_n 3, 1) := by decide +kernel
theorem dX11_feast_19 : decode cX11_feast 19 = .ok (.iconst 2, 1) := by decide +kernel
theorem dX11_feast_20 : decode cX11_feast 20 = .ok (.if_icmp .ge 10, 3) := by decide +kernel
theorem dX11_feast_23 : decode cX11_feast 23 = .ok (.aload_n 0, 1) := by decide +kernel
theorem dX11_feast_24 : decode cX11_feast 24 = .ok (.bipush (-4), 2) := by decide +kernel
theorem dX11_feast_26 : decode cX11_feast 26 = .ok (.invokevirtual 183, 3) := by decide +kernel
theorem dX11_feast_29 : decode cX11_feast 29 = .ok (.lreturn, 1) := by decide +kernel
theorem dX11_feast_30 : decode cX11_feast 30 = .ok (.iload_n 2, 1) := by decide +kernel
theorem dX11_feast_31 : decode cX11_feast 31 = .ok (.bipush 7, 2) := by decide +kernel
theorem dX11_feast_33 : decode cX11_feast 33 = .ok (.if_icmp .gt 9, 3) := by decide +kernel
theorem dX11_feast_36 : decode cX11_feast 36 = .ok (.iload_n 3, 1) := by decide +kernel
theorem dX11_feast_37 : decode cX11_feast 37 = .ok (.bipush 20, 2) := by decide +kernel
theorem dX11_feast_39 : decode cX11_feast 39 = .ok (.if_icmp .le 10, 3) := by decide +kernel
theorem dX11_feast_42 : decode cX11_feast 42 = .ok (.aload_n 0, 1) := by decide +kernel
theorem dX11_feast_43 : decode cX11_feast 43 = .ok (.bipush (-6), 2) := by decide +kernel
theorem dX11_feast_45 : decode cX11_feast 45 = .ok (.invokevirtual 183, 3) := by decide +kernel
theorem dX11_feast_48 : decode cX11_feast 48 = .ok (.lreturn, 1) := by decide +kernel
theorem dX11_feast_49 : decode cX11_feast 49 = .ok (.iload 4, 2) := by decide +kernel
theorem dX11_feast_51 : decode cX11_feast 51 = .ok (.iconst 0, 1) := by decide +kernel
theorem dX11_feast_52 : decode cX11_feast 52 = .ok (.iconst 1, 1) := by decide +kernel
theorem dX11_feast_53 : decode cX11_feast 53 = .ok (.invokestatic 40, 3) := by decide +kernel
theorem dX11_feast_56 : decode cX11_feast 56 = .ok (.ifCond .ne 10, 3) := by decide +kernel
theorem dX11_feast_59 : decode cX11_feast 59 = .ok (.aload_n 0, 1) := by decide +kernel
theorem dX11_feast_60 : decode cX11_feast 60 = .ok (.bipush (-2), 2) := by decide +kernel
theorem dX11_feast_62 : decode cX11_feast 62 = .ok (.invokevirtual 183, 3) := by decide +kernel
theorem dX11_feast_65 : decode cX11_feast 65 = .ok (.lreturn, 1) := by decide +kernel
theorem dX11_feast_66 : decode cX11_feast 66 = .ok (.lconst 0, 1) := by decide +kernel
theorem dX11_feast_67 : decode cX11_feast 67 = .ok (.lstore 5, 2) := by decide +kernel
theorem dX11_feast_69 : decode cX11_feast 69 = .ok (.lconst 1, 1) := by decide +kernel
theorem dX11_feast_70 : decode cX11_feast 70 = .ok (.lstore 7, 2) := by decide +kernel
theorem dX11_feast_72 : decode cX11_feast 72 = .ok (.iconst 0, 1) := by decide +kernel
theorem dX11_feast_73 : decode cX11_feast 73 = .ok (.istore 9, 2) := by decide +kernel
theorem dX11_feast_75 : decode cX11_feast 75 = .ok (.iload 9, 2) := by decide +kernel
theorem dX11_feast_77 : decode cX11_feast 77 = .ok (.iload_n 2, 1) := by decide +kernel
theorem dX11_feast_78 : decode cX11_feast 78 = .ok (.if_icmp .ge 16, 3) := by decide +kernel
theorem dX11_feast_81 : decode cX11_feast 81 = .ok (.lload 7, 2) := by decide +kernel
theorem dX11_feast_83 : decode cX11_feast 83 = .ok (.iload_n 3, 1) := by decide +kernel
theorem dX11_feast_84 : decode cX11_feast 84 = .ok (.i2l, 1) := by decide +kernel
theorem dX11_feast_85 : decode cX11_feast 85 = .ok (.lmul, 1) := by decide +kernel
theorem dX11_feast_86 : decode cX11_feast 86 = .ok (.lstore 7, 2) := by decide +kernel
theorem dX11_feast_88 : decode cX11_feast 88 = .ok (.iinc 9 1, 3) := by decide +kernel
theorem dX11_feast_91 : decode cX11_feast 91 = .ok (.goto (-16), 3) := by decide +kernel
theorem dX11_feast_94 : decode cX11_feast 94 = .ok (.iconst 0, 1) := by decide +kernel
theorem dX11_feast_95 : decode cX11_feast 95 = .ok (.istore 9, 2) := by decide +kernel
theorem dX11_feast_97 : decode cX11_feast 97 = .ok (.iload 9, 2) := by decide +kernel
theorem dX11_feast_99 : decode cX11_feast 99 = .ok (.iconst 1, 1) := by decide +kernel
theorem dX11_feast_100 : decode cX11_feast 100 = .ok (.iload_n 2, 1) := by decide +kernel
theorem dX11_feast_101 : decode cX11_feast 101 = .ok (.ishl, 1) := by decide +kernel
theorem dX11_feast_102 : decode cX11_feast 102 = .ok (.if_icmp .ge 107, 3) := by decide +kernel
theorem dX11_feast_105 : decode cX11_feast 105 = .ok (.lconst 1, 1) := by decide +kernel
theorem dX11_feast_106 : decode cX11_feast 106 = .ok (.lstore 10, 2) := by decide +kernel
theorem dX11_feast_108 : decode cX11_feast 108 = .ok (.aload_n 0, 1) := by decide +kernel
theorem dX11_feast_109 : decode cX11_feast 109 = .ok (.getfield 9, 3) := by decide +kernel
theorem dX11_feast_112 : decode cX11_feast 112 = .ok (.aload_n 0, 1) := by decide +kernel
theorem dX11_feast_113 : decode cX11_feast 113 = .ok (.getfield 13, 3) := by decide +kernel
theorem dX11_feast_116 : decode cX11_feast 116 = .ok (.invokestatic 125, 3) := by decide +kernel
theorem dX11_feast_119 : decode cX11_feast 119 = .ok (.iconst 0, 1) := by decide +kernel
theorem dX11_feast_120 : decode cX11_feast 120 = .ok (.istore 12, 2) := by decide +kernel
theorem dX11_feast_122 : decode cX11_feast 122 = .ok (.iload 12, 2) := by decide +kernel
theorem dX11_feast_124 : decode cX11_feast 124 = .ok (.iload_n 2, 1) := by decide +kernel
theorem dX11_feast_125 : decode cX11_feast 125 = .ok (.if_icmp .ge 56, 3) := by decide +kernel
theorem dX11_feast_128 : decode cX11_feast 128 = .ok (.lload 10, 2) := by decide +kernel
theorem dX11_feast_130 : decode cX11_feast 130 = .ok (.iload 9, 2) := by decide +kernel
theorem dX11_feast_132 : decode cX11_feast 132 = .ok (.iload 12, 2) := by decide +kernel
theorem dX11_feast_134 : decode cX11_feast 134 = .ok (.invokestatic 169, 3) := by decide +kernel
theorem dX11_feast_137 : decode cX11_feast 137 = .ok (.ifCond .eq 7, 3) := by decide +kernel
theorem dX11_feast_140 : decode cX11_feast 140 = .ok (.lconst 1, 1) := by decide +kernel
theorem dX11_feast_141 : decode cX11_feast 141 = .ok (.goto 7, 3) := by decide +kernel
theorem dX11_feast_144 : decode cX11_feast 144 = .ok (.iload_n 3, 1) := by decide +kernel
theorem dX11_feast_145 : decode cX11_feast 145 = .ok (.iconst 1, 1) := by decide +kernel
theorem dX11_feast_146 : decode cX11_feast 146 = .ok (.isub, 1) := by decide +kernel
theorem dX11_feast_147 : decode cX11_feast 147 = .ok (.i2l, 1) := by decide +kernel
theorem dX11_feast_148 : decode cX11_feast 148 = .ok (.lmul, 1) := by decide +kernel
theorem dX11_feast_149 : decode cX11_feast 149 = .ok (.lstore 10, 2) := by decide +kernel
theorem dX11_feast_151 : decode cX11_feast 151 = .ok (.iload 9, 2) := by decide +kernel
theorem dX11_feast_153 : decode cX11_feast 153 = .ok (.iload 12, 2) := by decide +kernel
theorem dX11_feast_155 : decode cX11_feast 155 = .ok (.invokestatic 169, 3) := by decide +kernel
theorem dX11_feast_158 : decode cX11_feast 158 = .ok (.ifCond .eq 10, 3) := by decide +kernel
theorem dX11_feast_161 : decode cX11_feast 161 = .ok (.aload_n 0, 1) := by decide +kernel
theorem dX11_feast_162 : decode cX11_feast 162 = .ok (.getfield 13, 3) := by decide +kernel
theorem dX11_feast_165 : decode cX11_feast 165 = .ok (.invokestatic 187, 3) := by decide +kernel
theorem dX11_feast_168 : decode cX11_feast 168 = .ok (.aload_n 0, 1) := by decide +kernel
theorem dX11_feast_169 : decode cX11_feast 169 = .ok (.getfield 13, 3) := by decide +kernel
theorem dX11_feast_172 : decode cX11_feast 172 = .ok (.invokestatic 80, 3) := by decide +kernel
theorem dX11_feast_175 : decode cX11_feast 175 = .ok (.iinc 12 1, 3) := by decide +kernel
theorem dX11_feast_178 : decode cX11_feast 178 = .ok (.goto (-56), 3) := by decide +kernel
theorem dX11_feast_181 : decode cX11_feast 181 = .ok (.lload 5, 2) := by decide +kernel
theorem dX11_feast_183 : decode cX11_feast 183 = .ok (.aload_n 0, 1) := by decide +kernel
theorem dX11_feast_184 : decode cX11_feast 184 = .ok (.getfield 13, 3) := by decide +kernel
theorem dX11_feast_187 : decode cX11_feast 187 = .ok (.iload_n 1, 1) := by decide +kernel
theorem dX11_feast_188 : decode cX11_feast 188 = .ok (.invokestatic 52, 3) := by decide +kernel
theorem dX11_feast_191 : decode cX11_feast 191 = .ok (.ifCond .eq 8, 3) := by decide +kernel
theorem dX11_feast_194 : decode cX11_feast 194 = .ok (.lload 10, 2) := by decide +kernel
theorem dX11_feast_196 : decode cX11_feast 196 = .ok (.goto 4, 3) := by decide +kernel
theorem dX11_feast_199 : decode cX11_feast 199 = .ok (.lconst 0, 1) := by decide +kernel
theorem dX11_feast_200 : decode cX11_feast 200 = .ok (.ladd, 1) := by decide +kernel
theorem dX11_feast_201 : decode cX11_feast 201 = .ok (.lstore 5, 2) := by decide +kernel
theorem dX11_feast_203 : decode cX11_feast 203 = .ok (.iinc 9 1, 3) := by decide +kernel
theorem dX11_feast_206 : decode cX11_feast 206 = .ok (.goto (-109), 3) := by decide +kernel
theorem dX11_feast_209 : decode cX11_feast 209 = .ok (.lload 5, 2) := by decide +kernel
theorem dX11_feast_211 : decode cX11_feast 211 = .ok (.lload 7, 2) := by decide +kernel
theorem dX11_feast_213 : decode cX11_feast 213 = .ok (.iload 4, 2) := by decide +kernel
theorem dX11_feast_215 : decode cX11_feast 215 = .ok (.invokestatic 190, 3) := by decide +kernel
theorem dX11_feast_218 : decode cX11_feast 218 = .ok (.lreturn, 1) := by decide +kernel
set_option maxRecDepth 20000 in
theorem ggX11_knownAll_X11_isHere : GoodIn wsX11_knownAll wsX11_isHere := goodIn_r _ [4, 5, 6, 3, 7] (by decide +kernel) (by decide +kernel)
set_option maxRecDepth 20000 in
theorem gX11_knownAll_X11_isHere : GoodIn wsX11_knownAll (va_wsS RX11 52 yX11_isHere wsX11_isHere) := goodIn_app (goodIn_of _ (by decide +kernel)) ggX11_knownAll_X11_isHere
set_option maxRecDepth 20000 in
theorem ggX11_knownAll_X11_knownIn : GoodIn wsX11_knownAll wsX11_knownIn := goodIn_r _ [10, 1, 2, 3, 4, 5, 6, 7, 11, 12, 13] (by decide +kernel) (by decide +kernel)
set_option maxRecDepth 20000 in
theorem gX11_knownAll_X11_knownIn : GoodIn wsX11_knownAll (va_wsS RX11 62 yX11_knownIn wsX11_knownIn) := goodIn_app (goodIn_of _ (by decide +kernel)) ggX11_knownAll_X11_knownIn
theorem dX11_knownAll_0 : decode cX11_knownAll 0 = .ok (.iconst 0, 1) := by decide +kernel
theorem dX11_knownAll_1 : decode cX11_knownAll 1 = .ok (.istore_n 1, 1) := by decide +kernel
theorem dX11_knownAll_2 : decode cX11_knownAll 2 = .ok (.iconst 0, 1) := by decide +kernel
theorem dX11_knownAll_3 : decode cX11_knownAll 3 = .ok (.istore_n 2, 1) := by decide +kernel
theorem dX11_knownAll_4 : decode cX11_knownAll 4 = .ok (.iload_n 2, 1) := by decide +kernel
theorem dX11_knownAll_5 : decode cX11_knownAll 5 = .ok (.aload_n 0, 1) := by decide +kernel
theorem dX11_knownAll_6 : decode cX11_knownAll 6 = .ok (.iconst 0, 1) := by decide +kernel
theorem dX11_knownAll_7 : decode cX11_knownAll 7 = .ok (.iaload, 1) := by decide +kernel
theorem dX11_knownAll_8 : decode cX11_knownAll 8 = .ok (.if_icmp .ge 29, 3) := by decide +kernel
theorem dX11_knownAll_11 : decode cX11_knownAll 11 = .ok (.iload_n 1, 1) := by decide +kernel
theorem dX11_knownAll_12 : decode cX11_knownAll 12 = .ok (.aload_n 0, 1) := by decide +kernel
theorem dX11_knownAll_13 : decode cX11_knownAll 13 = .ok (.iload_n 2, 1) := by decide +kernel
theorem dX11_knownAll_14 : decode cX11_knownAll 14 = .ok (.invokestatic 52, 3) := by decide +kernel
theorem dX11_knownAll_17 : decode cX11_knownAll 17 = .ok (.ifCond .eq 11, 3) := by decide +kernel
theorem dX11_knownAll_20 : decode cX11_knownAll 20 = .ok (.aload_n 0, 1) := by decide +kernel
theorem dX11_knownAll_21 : decode cX11_knownAll 21 = .ok (.iload_n 2, 1) := by decide +kernel
theorem dX11_knownAll_22 : decode cX11_knownAll 22 = .ok (.invokestatic 62, 3) := by decide +kernel
theorem dX11_knownAll_25 : decode cX11_knownAll 25 = .ok (.goto 4, 3) := by decide +kernel
theorem dX11_knownAll_28 : decode cX11_knownAll 28 = .ok (.iconst 0, 1) := by decide +kernel
theorem dX11_knownAll_29 : decode cX11_knownAll 29 = .ok (.iadd, 1) := by decide +kernel
theorem dX11_knownAll_30 : decode cX11_knownAll 30 = .ok (.istore_n 1, 1) := by decide +kernel
theorem dX11_knownAll_31 : decode cX11_knownAll 31 = .ok (.iinc 2 1, 3) := by decide +kernel
theorem dX11_knownAll_34 : decode cX11_knownAll 34 = .ok (.goto (-30), 3) := by decide +kernel
theorem dX11_knownAll_37 : decode cX11_knownAll 37 = .ok (.iload_n 1, 1) := by decide +kernel
theorem dX11_knownAll_38 : decode cX11_knownAll 38 = .ok (.ireturn, 1) := by decide +kernel
set_option maxRecDepth 20000 in
theorem ggX11_mean_X11_isIn : GoodIn wsX11_mean wsX11_isIn := goodIn_r _ [5] (by decide +kernel) (by decide +kernel)
set_option maxRecDepth 20000 in
theorem gX11_mean_X11_isIn : GoodIn wsX11_mean (va_wsS RX11 40 yX11_isIn wsX11_isIn) := goodIn_app (goodIn_of _ (by decide +kernel)) ggX11_mean_X11_isIn
set_option maxRecDepth 20000 in
theorem ggX11_mean_X11_knownAll : GoodIn wsX11_mean wsX11_knownAll := goodIn_r _ [8, 9, 10, 4, 11, 12, 13, 14, 15, 16, 17, 18, 19, 20] (by decide +kernel) (by decide +kernel)
set_option maxRecDepth 20000 in
theorem gX11_mean_X11_knownAll : GoodIn wsX11_mean (va_wsS RX11 194 yX11_knownAll wsX11_knownAll) := goodIn_app (goodIn_of _ (by decide +kernel)) ggX11_mean_X11_knownAll
set_option maxRecDepth 20000 in
theorem ggX11_mean_X11_hereIn : GoodIn wsX11_mean wsX11_hereIn := goodIn_r _ [23, 12, 13, 4, 14] (by decide +kernel) (by decide +kernel)
set_option maxRecDepth 20000 in
theorem gX11_mean_X11_hereIn : GoodIn wsX11_mean (va_wsS RX11 136 yX11_hereIn wsX11_hereIn) := goodIn_app (goodIn_of _ (by decide +kernel)) ggX11_mean_X11_hereIn
set_option maxRecDepth 20000 in
theorem ggX11_mean_X11_bits : GoodIn wsX11_mean wsX11_bits := goodIn_r _ [26] (by decide +kernel) (by decide +kernel)
set_option maxRecDepth 20000 in
theorem gX11_mean_X11_bits : GoodIn wsX11_mean (va_wsS RX11 139 yX11_bits wsX11_bits) := goodIn_app (goodIn_of _ (by decide +kernel)) ggX11_mean_X11_bits
set_option maxRecDepth 20000 in
theorem ggX11_mean_X11_partOf : GoodIn wsX11_mean wsX11_partOf := goodIn_r _ [29, 30, 31, 4, 32] (by decide +kernel) (by decide +kernel)
set_option maxRecDepth 20000 in
theorem gX11_mean_X11_partOf : GoodIn wsX11_mean (va_wsS RX11 190 yX11_partOf wsX11_partOf) := goodIn_app (goodIn_of _ (by decide +kernel)) ggX11_mean_X11_partOf
set_option maxRecDepth 20000 in
theorem ggX11_mean_X11_noWide : GoodIn wsX11_mean wsX11_noWide := goodIn_r _ [36, 37, 38, 39, 40, 4, 41, 42, 43, 44, 45, 46, 47, 48, 49, 50, 51, 52, 53, 54, 55] (by decide +kernel) (by decide +kernel)
set_option maxRecDepth 20000 in
theorem gX11_mean_X11_noWide : GoodIn wsX11_mean (wsV RX11 183 RX11 yX11_noWide wsX11_noWide) := goodIn_app (goodIn_of _ (by decide +kernel)) ggX11_mean_X11_noWide
theorem dX11_mean_0 : decode cX11_mean 0 = .ok (.iload_n 1, 1) := by decide +kernel
theorem dX11_mean_1 : decode cX11_mean 1 = .ok (.iconst 0, 1) := by decide +kernel
theorem dX11_mean_2 : decode cX11_mean 2 = .ok (.iconst 1, 1) := by decide +kernel
theorem dX11_mean_3 : decode cX11_mean 3 = .ok (.invokestatic 40, 3) := by decide +kernel
theorem dX11_mean_6 : decode cX11_mean 6 = .ok (.ifCond .eq 29, 3) := by decide +kernel
theorem dX11_mean_9 : decode cX11_mean 9 = .ok (.aload_n 0, 1) := by decide +kernel
theorem dX11_mean_10 : decode cX11_mean 10 = .ok (.getfield 9, 3) := by decide +kernel
theorem dX11_mean_13 : decode cX11_mean 13 = .ok (.invokestatic 194, 3) := by decide +kernel
theorem dX11_mean_16 : decode cX11_mean 16 = .ok (.i2l, 1) := by decide +kernel
theorem dX11_mean_17 : decode cX11_mean 17 = .ok (.aload_n 0, 1) := by decide +kernel
theorem dX11_mean_18 : decode cX11_mean 18 = .ok (.getfield 9, 3) := by decide +kernel
theorem dX11_mean_21 : decode cX11_mean 21 = .ok (.invokestatic 136, 3) := by decide +kernel
theorem dX11_mean_24 : decode cX11_mean 24 = .ok (.invokestatic 139, 3) := by decide +kernel
theorem dX11_mean_27 : decode cX11_mean 27 = .ok (.i2l, 1) := by decide +kernel
theorem dX11_mean_28 : decode cX11_mean 28 = .ok (.iload_n 1, 1) := by decide +kernel
theorem dX11_mean_29 : decode cX11_mean 29 = .ok (.invokestatic 190, 3) := by decide +kernel
theorem dX11_mean_32 : decode cX11_mean 32 = .ok (.goto 9, 3) := by decide +kernel
theorem dX11_mean_35 : decode cX11_mean 35 = .ok (.aload_n 0, 1) := by decide +kernel
theorem dX11_mean_36 : decode cX11_mean 36 = .ok (.bipush (-2), 2) := by decide +kernel
theorem dX11_mean_38 : decode cX11_mean 38 = .ok (.invokevirtual 183, 3) := by decide +kernel
theorem dX11_mean_41 : decode cX11_mean 41 = .ok (.lreturn, 1) := by decide +kernel
set_option maxRecDepth 20000 in
theorem ggX11_whatIs_X11_areTwo : GoodIn wsX11_whatIs wsX11_areTwo := goodIn_r _ [9, 10, 11, 12, 8, 13, 1, 14, 15, 16, 55, 56, 57, 58, 59, 60, 61, 62, 63, 64, 65, 66, 67] (by decide +kernel) (by decide +kernel)
set_option maxRecDepth 20000 in
theorem gX11_whatIs_X11_areTwo : GoodIn wsX11_whatIs (wsV RX11 109 RX11 yX11_areTwo wsX11_areTwo) := goodIn_app (goodIn_of _ (by decide +kernel)) ggX11_whatIs_X11_areTwo
set_option maxRecDepth 20000 in
theorem ggX11_whatIs_X11_no : GoodIn wsX11_whatIs wsX11_no := goodIn_r _ [20, 21, 55, 56, 57, 58, 59, 60, 61, 62, 63, 64, 65, 66, 67] (by decide +kernel) (by decide +kernel)
set_option maxRecDepth 20000 in
theorem gX11_whatIs_X11_no : GoodIn wsX11_whatIs (wsV RX11 36 RX11 yX11_no wsX11_no) := goodIn_app (goodIn_of _ (by decide +kernel)) ggX11_whatIs_X11_no
set_option maxRecDepth 20000 in
theorem ggX11_whatIs_X11_isIn : GoodIn wsX11_whatIs wsX11_isIn := goodIn_r _ [16] (by decide +kernel) (by decide +kernel)
set_option maxRecDepth 20000 in
theorem gX11_whatIs_X11_isIn : GoodIn wsX11_whatIs (va_wsS RX11 40 yX11_isIn wsX11_isIn) := goodIn_app (goodIn_of _ (by decide +kernel)) ggX11_whatIs_X11_isIn
set_option maxRecDepth 20000 in
theorem ggX11_whatIs_X11_copies : GoodIn wsX11_whatIs wsX11_copies := goodIn_r _ [24] (by decide +kernel) (by decide +kernel)
set_option maxRecDepth 20000 in
theorem gX11_whatIs_X11_copies : GoodIn wsX11_whatIs (va_wsS RX11 125 yX11_copies wsX11_copies) := goodIn_app (goodIn_of _ (by decide +kernel)) ggX11_whatIs_X11_copies
set_option maxRecDepth 20000 in
theorem ggX11_whatIs_X11_of : GoodIn wsX11_whatIs wsX11_of := goodIn_r _ [27] (by decide +kernel) (by decide +kernel)
set_option maxRecDepth 20000 in
theorem gX11_whatIs_X11_of : GoodIn wsX11_whatIs (va_wsS RX11 48 yX11_of wsX11_of) := goodIn_app (goodIn_of _ (by decide +kernel)) ggX11_whatIs_X11_of
set_option maxRecDepth 20000 in
theorem ggX11_whatIs_X11_by : GoodIn wsX11_whatIs wsX11_by := goodIn_r _ [30] (by decide +kernel) (by decide +kernel)
set_option maxRecDepth 20000 in
theorem gX11_whatIs_X11_by : GoodIn wsX11_whatIs (va_wsS RX11 56 yX11_by wsX11_by) := goodIn_app (goodIn_of _ (by decide +kernel)) ggX11_whatIs_X11_by
set_option maxRecDepth 20000 in
theorem ggX11_whatIs_X11_week : GoodIn wsX11_whatIs wsX11_week := goodIn_r _ [33, 34, 35, 8, 36, 25, 26, 27, 37, 38, 39, 28, 29, 30, 40, 41, 42, 43, 44, 45, 46, 47, 48, 49, 50, 51, 52, 53, 54] (by decide +kernel) (by decide +kernel)
set_option maxRecDepth 20000 in
theorem gX11_whatIs_X11_week : GoodIn wsX11_whatIs (va_wsS RX11 80 yX11_week wsX11_week) := goodIn_app (goodIn_of _ (by decide +kernel)) ggX11_whatIs_X11_week
theorem dX11_whatIs_0 : decode cX11_whatIs 0 = .ok (.aload_n 0, 1) := by decide +kernel
theorem dX11_whatIs_1 : decode cX11_whatIs 1 = .ok (.iload_n 1, 1) := by decide +kernel
theorem dX11_whatIs_2 : decode cX11_whatIs 2 = .ok (.iload_n 2, 1) := by decide +kernel
theorem dX11_whatIs_3 : decode cX11_whatIs 3 = .ok (.invokevirtual 109, 3) := by decide +kernel
theorem dX11_whatIs_6 : decode cX11_whatIs 6 = .ok (.ifCond .ne 9, 3) := by decide +kernel
theorem dX11_whatIs_9 : decode cX11_whatIs 9 = .ok (.aload_n 0, 1) := by decide +kernel
theorem dX11_whatIs_10 : decode cX11_whatIs 10 = .ok (.iconst (-1), 1) := by decide +kernel
theorem dX11_whatIs_11 : decode cX11_whatIs 11 = .ok (.invokevirtual 36, 3) := by decide +kernel
theorem dX11_whatIs_14 : decode cX11_whatIs 14 = .ok (.ireturn, 1) := by decide +kernel
theorem dX11_whatIs_15 : decode cX11_whatIs 15 = .ok (.iload_n 3, 1) := by decide +kernel
theorem dX11_whatIs_16 : decode cX11_whatIs 16 = .ok (.iconst 0, 1) := by decide +kernel
theorem dX11_whatIs_17 : decode cX11_whatIs 17 = .ok (.iconst 1, 1) := by decide +kernel
theorem dX11_whatIs_18 : decode cX11_whatIs 18 = .ok (.invokestatic 40, 3) := by decide +kernel
theorem dX11_whatIs_21 : decode cX11_whatIs 21 = .ok (.ifCond .ne 10, 3) := by decide +kernel
theorem dX11_whatIs_24 : decode cX11_whatIs 24 = .ok (.aload_n 0, 1) := by decide +kernel
theorem dX11_whatIs_25 : decode cX11_whatIs 25 = .ok (.bipush (-2), 2) := by decide +kernel
theorem dX11_whatIs_27 : decode cX11_whatIs 27 = .ok (.invokevirtual 36, 3) := by decide +kernel
theorem dX11_whatIs_30 : decode cX11_whatIs 30 = .ok (.ireturn, 1) := by decide +kernel
theorem dX11_whatIs_31 : decode cX11_whatIs 31 = .ok (.iconst 0, 1) := by decide +kernel
theorem dX11_whatIs_32 : decode cX11_whatIs 32 = .ok (.istore 4, 2) := by decide +kernel
theorem dX11_whatIs_34 : decode cX11_whatIs 34 = .ok (.iconst 0, 1) := by decide +kernel
theorem dX11_whatIs_35 : decode cX11_whatIs 35 = .ok (.istore 5, 2) := by decide +kernel
theorem dX11_whatIs_37 : decode cX11_whatIs 37 = .ok (.iload 5, 2) := by decide +kernel
theorem dX11_whatIs_39 : decode cX11_whatIs 39 = .ok (.iload_n 3, 1) := by decide +kernel
theorem dX11_whatIs_40 : decode cX11_whatIs 40 = .ok (.ifCond .ne 8, 3) := by decide +kernel
theorem dX11_whatIs_43 : decode cX11_whatIs 43 = .ok (.bipush 6, 2) := by decide +kernel
theorem dX11_whatIs_45 : decode cX11_whatIs 45 = .ok (.goto 5, 3) := by decide +kernel
theorem dX11_whatIs_48 : decode cX11_whatIs 48 = .ok (.bipush 10, 2) := by decide +kernel
theorem dX11_whatIs_50 : decode cX11_whatIs 50 = .ok (.if_icmp .ge 108, 3) := by decide +kernel
theorem dX11_whatIs_53 : decode cX11_whatIs 53 = .ok (.iconst 1, 1) := by decide +kernel
theorem dX11_whatIs_54 : decode cX11_whatIs 54 = .ok (.istore 6, 2) := by decide +kernel
theorem dX11_whatIs_56 : decode cX11_whatIs 56 = .ok (.aload_n 0, 1) := by decide +kernel
theorem dX11_whatIs_57 : decode cX11_whatIs 57 = .ok (.getfield 9, 3) := by decide +kernel
theorem dX11_whatIs_60 : decode cX11_whatIs 60 = .ok (.aload_n 0, 1) := by decide +kernel
theorem dX11_whatIs_61 : decode cX11_whatIs 61 = .ok (.getfield 13, 3) := by decide +kernel
theorem dX11_whatIs_64 : decode cX11_whatIs 64 = .ok (.invokestatic 125, 3) := by decide +kernel
theorem dX11_whatIs_67 : decode cX11_whatIs 67 = .ok (.aload_n 0, 1) := by decide +kernel
theorem dX11_whatIs_68 : decode cX11_whatIs 68 = .ok (.getfield 13, 3) := by decide +kernel
theorem dX11_whatIs_71 : decode cX11_whatIs 71 = .ok (.iload_n 1, 1) := by decide +kernel
theorem dX11_whatIs_72 : decode cX11_whatIs 72 = .ok (.iload_n 3, 1) := by decide +kernel
theorem dX11_whatIs_73 : decode cX11_whatIs 73 = .ok (.invokestatic 48, 3) := by decide +kernel
theorem dX11_whatIs_76 : decode cX11_whatIs 76 = .ok (.iload 5, 2) := by decide +kernel
theorem dX11_whatIs_78 : decode cX11_whatIs 78 = .ok (.iastore, 1) := by decide +kernel
theorem dX11_whatIs_79 : decode cX11_whatIs 79 = .ok (.iconst 0, 1) := by decide +kernel
theorem dX11_whatIs_80 : decode cX11_whatIs 80 = .ok (.istore 7, 2) := by decide +kernel
theorem dX11_whatIs_82 : decode cX11_whatIs 82 = .ok (.iload 7, 2) := by decide +kernel
theorem dX11_whatIs_84 : decode cX11_whatIs 84 = .ok (.aload_n 0, 1) := by decide +kernel
theorem dX11_whatIs_85 : decode cX11_whatIs 85 = .ok (.getfield 197, 3) := by decide +kernel
theorem dX11_whatIs_88 : decode cX11_whatIs 88 = .ok (.if_icmp .ge 46, 3) := by decide +kernel
theorem dX11_whatIs_91 : decode cX11_whatIs 91 = .ok (.iload 6, 2) := by decide +kernel
theorem dX11_whatIs_93 : decode cX11_whatIs 93 = .ok (.aload_n 0, 1) := by decide +kernel
theorem dX11_whatIs_94 : decode cX11_whatIs 94 = .ok (.getfield 13, 3) := by decide +kernel
theorem dX11_whatIs_97 : decode cX11_whatIs 97 = .ok (.iload_n 2, 1) := by decide +kernel
theorem dX11_whatIs_98 : decode cX11_whatIs 98 = .ok (.iload_n 1, 1) := by decide +kernel
theorem dX11_whatIs_99 : decode cX11_whatIs 99 = .ok (.invokestatic 56, 3) := by decide +kernel
theorem dX11_whatIs_102 : decode cX11_whatIs 102 = .ok (.iaload, 1) := by decide +kernel
theorem dX11_whatIs_103 : decode cX11_whatIs 103 = .ok (.aload_n 0, 1) := by decide +kernel
theorem dX11_whatIs_104 : decode cX11_whatIs 104 = .ok (.getfield 25, 3) := by decide +kernel
theorem dX11_whatIs_107 : decode cX11_whatIs 107 = .ok (.iload 7, 2) := by decide +kernel
theorem dX11_whatIs_109 : decode cX11_whatIs 109 = .ok (.iaload, 1) := by decide +kernel
theorem dX11_whatIs_110 : decode cX11_whatIs 110 = .ok (.if_icmp .ne 7, 3) := by decide +kernel
theorem dX11_whatIs_113 : decode cX11_whatIs 113 = .ok (.iconst 1, 1) := by decide +kernel
theorem dX11_whatIs_114 : decode cX11_whatIs 114 = .ok (.goto 4, 3) := by decide +kernel
theorem dX11_whatIs_117 : decode cX11_whatIs 117 = .ok (.iconst 0, 1) := by decide +kernel
theorem dX11_whatIs_118 : decode cX11_whatIs 118 = .ok (.iand, 1) := by decide +kernel
theorem dX11_whatIs_119 : decode cX11_whatIs 119 = .ok (.istore 6, 2) := by decide +kernel
theorem dX11_whatIs_121 : decode cX11_whatIs 121 = .ok (.aload_n 0, 1) := by decide +kernel
theorem dX11_whatIs_122 : decode cX11_whatIs 122 = .ok (.getfield 13, 3) := by decide +kernel
theorem dX11_whatIs_125 : decode cX11_whatIs 125 = .ok (.invokestatic 80, 3) := by decide +kernel
theorem dX11_whatIs_128 : decode cX11_whatIs 128 = .ok (.iinc 7 1, 3) := by decide +kernel
theorem dX11_whatIs_131 : decode cX11_whatIs 131 = .ok (.goto (-49), 3) := by decide +kernel
theorem dX11_whatIs_134 : decode cX11_whatIs 134 = .ok (.iload 4, 2) := by decide +kernel
theorem dX11_whatIs_136 : decode cX11_whatIs 136 = .ok (.iload 6, 2) := by decide +kernel
theorem dX11_whatIs_138 : decode cX11_whatIs 138 = .ok (.ifCond .eq 10, 3) := by decide +kernel
theorem dX11_whatIs_141 : decode cX11_whatIs 141 = .ok (.iconst 1, 1) := by decide +kernel
theorem dX11_whatIs_142 : decode cX11_whatIs 142 = .ok (.iload 5, 2) := by decide +kernel
theorem dX11_whatIs_144 : decode cX11_whatIs 144 = .ok (.ishl, 1) := by decide +kernel
theorem dX11_whatIs_145 : decode cX11_whatIs 145 = .ok (.goto 4, 3) := by decide +kernel
theorem dX11_whatIs_148 : decode cX11_whatIs 148 = .ok (.iconst 0, 1) := by decide +kernel
theorem dX11_whatIs_149 : decode cX11_whatIs 149 = .ok (.ior, 1) := by decide +kernel
theorem dX11_whatIs_150 : decode cX11_whatIs 150 = .ok (.istore 4, 2) := by decide +kernel
theorem dX11_whatIs_152 : decode cX11_whatIs 152 = .ok (.iinc 5 1, 3) := by decide +kernel
theorem dX11_whatIs_155 : decode cX11_whatIs 155 = .ok (.goto (-118), 3) := by decide +kernel
theorem dX11_whatIs_158 : decode cX11_whatIs 158 = .ok (.iload 4, 2) := by decide +kernel
theorem dX11_whatIs_160 : decode cX11_whatIs 160 = .ok (.ireturn, 1) := by decide +kernel
set_option maxRecDepth 20000 in
theorem ggX11_row_X11_wrongBy : GoodIn wsX11_row wsX11_wrongBy := goodIn_r _ [6] (by decide +kernel) (by decide +kernel)
set_option maxRecDepth 20000 in
theorem gX11_row_X11_wrongBy : GoodIn wsX11_row (va_wsS RX11 132 yX11_wrongBy wsX11_wrongBy) := goodIn_app (goodIn_of _ (by decide +kernel)) ggX11_row_X11_wrongBy
set_option maxRecDepth 20000 in
theorem ggX11_row_X11_no : GoodIn wsX11_row wsX11_no := goodIn_r _ [10, 11, 12, 13, 14, 15, 16, 17, 18, 19, 20, 21, 22, 23, 24] (by decide +kernel) (by decide +kernel)
set_option maxRecDepth 20000 in
theorem gX11_row_X11_no : GoodIn wsX11_row (wsV RX11 36 RX11 yX11_no wsX11_no) := goodIn_app (goodIn_of _ (by decide +kernel)) ggX11_row_X11_no
theorem dX11_row_0 : decode cX11_row 0 = .ok (.iload_n 1, 1) := by decide +kernel
theorem dX11_row_1 : decode cX11_row 1 = .ok (.iconst 0, 1) := by decide +kernel
theorem dX11_row_2 : decode cX11_row 2 = .ok (.bipush 99, 2) := by decide +kernel
theorem dX11_row_4 : decode cX11_row 4 = .ok (.invokestatic 132, 3) := by decide +kernel
theorem dX11_row_7 : decode cX11_row 7 = .ok (.istore_n 2, 1) := by decide +kernel
theorem dX11_row_8 : decode cX11_row 8 = .ok (.iload_n 2, 1) := by decide +kernel
theorem dX11_row_9 : decode cX11_row 9 = .ok (.ifCond .ne 15, 3) := by decide +kernel
theorem dX11_row_12 : decode cX11_row 12 = .ok (.aload_n 0, 1) := by decide +kernel
theorem dX11_row_13 : decode cX11_row 13 = .ok (.getfield 197, 3) := by decide +kernel
theorem dX11_row_16 : decode cX11_row 16 = .ok (.bipush 16, 2) := by decide +kernel
theorem dX11_row_18 : decode cX11_row 18 = .ok (.if_icmp .ne 6, 3) := by decide +kernel
theorem dX11_row_21 : decode cX11_row 21 = .ok (.bipush (-6), 2) := by decide +kernel
theorem dX11_row_23 : decode cX11_row 23 = .ok (.istore_n 2, 1) := by decide +kernel
theorem dX11_row_24 : decode cX11_row 24 = .ok (.iload_n 2, 1) := by decide +kernel
theorem dX11_row_25 : decode cX11_row 25 = .ok (.ifCond .eq 9, 3) := by decide +kernel
theorem dX11_row_28 : decode cX11_row 28 = .ok (.aload_n 0, 1) := by decide +kernel
theorem dX11_row_29 : decode cX11_row 29 = .ok (.iload_n 2, 1) := by decide +kernel
theorem dX11_row_30 : decode cX11_row 30 = .ok (.invokevirtual 36, 3) := by decide +kernel
theorem dX11_row_33 : decode cX11_row 33 = .ok (.ireturn, 1) := by decide +kernel
theorem dX11_row_34 : decode cX11_row 34 = .ok (.aload_n 0, 1) := by decide +kernel
theorem dX11_row_35 : decode cX11_row 35 = .ok (.getfield 25, 3) := by decide +kernel
theorem dX11_row_38 : decode cX11_row 38 = .ok (.aload_n 0, 1) := by decide +kernel
theorem dX11_row_39 : decode cX11_row 39 = .ok (.getfield 197, 3) := by decide +kernel
theorem dX11_row_42 : decode cX11_row 42 = .ok (.iload_n 1, 1) := by decide +kernel
theorem dX11_row_43 : decode cX11_row 43 = .ok (.iastore, 1) := by decide +kernel
theorem dX11_row_44 : decode cX11_row 44 = .ok (.aload_n 0, 1) := by decide +kernel
theorem dX11_row_45 : decode cX11_row 45 = .ok (.dup, 1) := by decide +kernel
theorem dX11_row_46 : decode cX11_row 46 = .ok (.getfield 197, 3) := by decide +kernel
theorem dX11_row_49 : decode cX11_row 49 = .ok (.iconst 1, 1) := by decide +kernel
theorem dX11_row_50 : decode cX11_row 50 = .ok (.iadd, 1) := by decide +kernel
theorem dX11_row_51 : decode cX11_row 51 = .ok (.putfield 197, 3) := by decide +kernel
theorem dX11_row_54 : decode cX11_row 54 = .ok (.aload_n 0, 1) := by decide +kernel
theorem dX11_row_55 : decode cX11_row 55 = .ok (.getfield 197, 3) := by decide +kernel
theorem dX11_row_58 : decode cX11_row 58 = .ok (.ireturn, 1) := by decide +kernel
set_option maxRecDepth 20000 in
theorem ggX11_judge_X11_copies : GoodIn wsX11_judge wsX11_copies := goodIn_r _ [8] (by decide +kernel) (by decide +kernel)
set_option maxRecDepth 20000 in
theorem gX11_judge_X11_copies : GoodIn wsX11_judge (va_wsS RX11 125 yX11_copies wsX11_copies) := goodIn_app (goodIn_of _ (by decide +kernel)) ggX11_judge_X11_copies
set_option maxRecDepth 20000 in
theorem ggX11_judge_X11_hereIn : GoodIn wsX11_judge wsX11_hereIn := goodIn_r _ [11, 12, 13, 7, 14] (by decide +kernel) (by decide +kernel)
set_option maxRecDepth 20000 in
theorem gX11_judge_X11_hereIn : GoodIn wsX11_judge (va_wsS RX11 136 yX11_hereIn wsX11_hereIn) := goodIn_app (goodIn_of _ (by decide +kernel)) ggX11_judge_X11_hereIn
set_option maxRecDepth 20000 in
theorem ggX11_judge_X11_bits : GoodIn wsX11_judge wsX11_bits := goodIn_r _ [17] (by decide +kernel) (by decide +kernel)
set_option maxRecDepth 20000 in
theorem gX11_judge_X11_bits : GoodIn wsX11_judge (va_wsS RX11 139 yX11_bits wsX11_bits) := goodIn_app (goodIn_of _ (by decide +kernel)) ggX11_judge_X11_bits
set_option maxRecDepth 20000 in
theorem ggX11_judge_X11_week : GoodIn wsX11_judge wsX11_week := goodIn_r _ [20, 21, 22, 7, 23, 12, 13, 14, 24, 25, 26, 27, 28, 29, 30, 31, 32, 33, 34, 35, 36, 37, 38, 39, 40, 41, 42, 43, 44] (by decide +kernel) (by decide +kernel)
set_option maxRecDepth 20000 in
theorem gX11_judge_X11_week : GoodIn wsX11_judge (va_wsS RX11 80 yX11_week wsX11_week) := goodIn_app (goodIn_of _ (by decide +kernel)) ggX11_judge_X11_week
theorem dX11_judge_0 : decode cX11_judge 0 = .ok (.aload_n 0, 1) := by decide +kernel
theorem dX11_judge_1 : decode cX11_judge 1 = .ok (.getfield 197, 3) := by decide +kernel
theorem dX11_judge_4 : decode cX11_judge 4 = .ok (.istore_n 1, 1) := by decide +kernel
theorem dX11_judge_5 : decode cX11_judge 5 = .ok (.aload_n 0, 1) := by decide +kernel
theorem dX11_judge_6 : decode cX11_judge 6 = .ok (.iconst 0, 1) := by decide +kernel
theorem dX11_judge_7 : decode cX11_judge 7 = .ok (.putfield 197, 3) := by decide +kernel
theorem dX11_judge_10 : decode cX11_judge 10 = .ok (.aload_n 0, 1) := by decide +kernel
theorem dX11_judge_11 : decode cX11_judge 11 = .ok (.getfield 9, 3) := by decide +kernel
theorem dX11_judge_14 : decode cX11_judge 14 = .ok (.aload_n 0, 1) := by decide +kernel
theorem dX11_judge_15 : decode cX11_judge 15 = .ok (.getfield 13, 3) := by decide +kernel
theorem dX11_judge_18 : decode cX11_judge 18 = .ok (.invokestatic 125, 3) := by decide +kernel
theorem dX11_judge_21 : decode cX11_judge 21 = .ok (.iconst 0, 1) := by decide +kernel
theorem dX11_judge_22 : decode cX11_judge 22 = .ok (.istore_n 2, 1) := by decide +kernel
theorem dX11_judge_23 : decode cX11_judge 23 = .ok (.iload_n 2, 1) := by decide +kernel
theorem dX11_judge_24 : decode cX11_judge 24 = .ok (.iload_n 1, 1) := by decide +kernel
theorem dX11_judge_25 : decode cX11_judge 25 = .ok (.if_icmp .ge 37, 3) := by decide +kernel
theorem dX11_judge_28 : decode cX11_judge 28 = .ok (.aload_n 0, 1) := by decide +kernel
theorem dX11_judge_29 : decode cX11_judge 29 = .ok (.getfield 13, 3) := by decide +kernel
theorem dX11_judge_32 : decode cX11_judge 32 = .ok (.invokestatic 136, 3) := by decide +kernel
theorem dX11_judge_35 : decode cX11_judge 35 = .ok (.invokestatic 139, 3) := by decide +kernel
theorem dX11_judge_38 : decode cX11_judge 38 = .ok (.aload_n 0, 1) := by decide +kernel
theorem dX11_judge_39 : decode cX11_judge 39 = .ok (.getfield 25, 3) := by decide +kernel
theorem dX11_judge_42 : decode cX11_judge 42 = .ok (.iload_n 2, 1) := by decide +kernel
theorem dX11_judge_43 : decode cX11_judge 43 = .ok (.iaload, 1) := by decide +kernel
theorem dX11_judge_44 : decode cX11_judge 44 = .ok (.if_icmp .eq 5, 3) := by decide +kernel
theorem dX11_judge_47 : decode cX11_judge 47 = .ok (.iload_n 2, 1) := by decide +kernel
theorem dX11_judge_48 : decode cX11_judge 48 = .ok (.ireturn, 1) := by decide +kernel
theorem dX11_judge_49 : decode cX11_judge 49 = .ok (.aload_n 0, 1) := by decide +kernel
theorem dX11_judge_50 : decode cX11_judge 50 = .ok (.getfield 13, 3) := by decide +kernel
theorem dX11_judge_53 : decode cX11_judge 53 = .ok (.invokestatic 80, 3) := by decide +kernel
theorem dX11_judge_56 : decode cX11_judge 56 = .ok (.iinc 2 1, 3) := by decide +kernel
theorem dX11_judge_59 : decode cX11_judge 59 = .ok (.goto (-36), 3) := by decide +kernel
theorem dX11_judge_62 : decode cX11_judge 62 = .ok (.bipush (-9), 2) := by decide +kernel
theorem dX11_judge_64 : decode cX11_judge 64 = .ok (.ireturn, 1) := by decide +kernel
theorem dX11_clear_0 : decode cX11_clear 0 = .ok (.aload_n 0, 1) := by decide +kernel
theorem dX11_clear_1 : decode cX11_clear 1 = .ok (.getfield 197, 3) := by decide +kernel
theorem dX11_clear_4 : decode cX11_clear 4 = .ok (.istore_n 1, 1) := by decide +kernel
theorem dX11_clear_5 : decode cX11_clear 5 = .ok (.aload_n 0, 1) := by decide +kernel
theorem dX11_clear_6 : decode cX11_clear 6 = .ok (.iconst 0, 1) := by decide +kernel
theorem dX11_clear_7 : decode cX11_clear 7 = .ok (.putfield 197, 3) := by decide +kernel
theorem dX11_clear_10 : decode cX11_clear 10 = .ok (.iload_n 1, 1) := by decide +kernel
theorem dX11_clear_11 : decode cX11_clear 11 = .ok (.ireturn, 1) := by decide +kernel
theorem dX11_drawn_0 : decode cX11_drawn 0 = .ok (.aload_n 0, 1) := by decide +kernel
theorem dX11_drawn_1 : decode cX11_drawn 1 = .ok (.aload_n 0, 1) := by decide +kernel
theorem dX11_drawn_2 : decode cX11_drawn 2 = .ok (.getfield 200, 3) := by decide +kernel
theorem dX11_drawn_5 : decode cX11_drawn 5 = .ok (.ldc 203, 2) := by decide +kernel
theorem dX11_drawn_7 : decode cX11_drawn 7 = .ok (.imul, 1) := by decide +kernel
theorem dX11_drawn_8 : decode cX11_drawn 8 = .ok (.ldc 204, 2) := by decide +kernel
theorem dX11_drawn_10 : decode cX11_drawn 10 = .ok (.iadd, 1) := by decide +kernel
theorem dX11_drawn_11 : decode cX11_drawn 11 = .ok (.putfield 200, 3) := by decide +kernel
theorem dX11_drawn_14 : decode cX11_drawn 14 = .ok (.aload_n 0, 1) := by decide +kernel
theorem dX11_drawn_15 : decode cX11_drawn 15 = .ok (.getfield 200, 3) := by decide +kernel
theorem dX11_drawn_18 : decode cX11_drawn 18 = .ok (.ldc 205, 2) := by decide +kernel
theorem dX11_drawn_20 : decode cX11_drawn 20 = .ok (.iand, 1) := by decide +kernel
theorem dX11_drawn_21 : decode cX11_drawn 21 = .ok (.sipush 256, 3) := by decide +kernel
theorem dX11_drawn_24 : decode cX11_drawn 24 = .ok (.idiv, 1) := by decide +kernel
theorem dX11_drawn_25 : decode cX11_drawn 25 = .ok (.iload_n 1, 1) := by decide +kernel
theorem dX11_drawn_26 : decode cX11_drawn 26 = .ok (.irem, 1) := by decide +kernel
theorem dX11_drawn_27 : decode cX11_drawn 27 = .ok (.ireturn, 1) := by decide +kernel
set_option maxRecDepth 20000 in
theorem ggX11_lots_X11_no : GoodIn wsX11_lots wsX11_no := goodIn_r _ [8, 9, 65, 66, 67, 68, 69, 70, 71, 72, 73, 74, 75, 76, 77] (by decide +kernel) (by decide +kernel)
set_option maxRecDepth 20000 in
theorem gX11_lots_X11_no : GoodIn wsX11_lots (wsV RX11 36 RX11 yX11_no wsX11_no) := goodIn_app (goodIn_of _ (by decide +kernel)) ggX11_lots_X11_no
set_option maxRecDepth 20000 in
theorem ggX11_lots_X11_isIn : GoodIn wsX11_lots wsX11_isIn := goodIn_r _ [12] (by decide +kernel) (by decide +kernel)
set_option maxRecDepth 20000 in
theorem gX11_lots_X11_isIn : GoodIn wsX11_lots (va_wsS RX11 40 yX11_isIn wsX11_isIn) := goodIn_app (goodIn_of _ (by decide +kernel)) ggX11_lots_X11_isIn
set_option maxRecDepth 20000 in
theorem ggX11_lots_X11_copies : GoodIn wsX11_lots wsX11_copies := goodIn_r _ [15] (by decide +kernel) (by decide +kernel)
set_option maxRecDepth 20000 in
theorem gX11_lots_X11_copies : GoodIn wsX11_lots (va_wsS RX11 125 yX11_copies wsX11_copies) := goodIn_app (goodIn_of _ (by decide +kernel)) ggX11_lots_X11_copies
set_option maxRecDepth 20000 in
theorem ggX11_lots_X11_by : GoodIn wsX11_lots wsX11_by := goodIn_r _ [18] (by decide +kernel) (by decide +kernel)
set_option maxRecDepth 20000 in
theorem gX11_lots_X11_by : GoodIn wsX11_lots (va_wsS RX11 56 yX11_by wsX11_by) := goodIn_app (goodIn_of _ (by decide +kernel)) ggX11_lots_X11_by
set_option maxRecDepth 20000 in
theorem ggX11_lots_X11_drawn : GoodIn wsX11_lots wsX11_drawn := goodIn_r _ [22, 1, 23, 24, 25, 65, 66, 67, 68, 69, 70, 71, 72, 73, 74, 75, 76, 77] (by decide +kernel) (by decide +kernel)
set_option maxRecDepth 20000 in
theorem gX11_lots_X11_drawn : GoodIn wsX11_lots (wsV RX11 206 RX11 yX11_drawn wsX11_drawn) := goodIn_app (goodIn_of _ (by decide +kernel)) ggX11_lots_X11_drawn
set_option maxRecDepth 20000 in
theorem ggX11_lots_X11_weeksOn : GoodIn wsX11_lots wsX11_weeksOn := goodIn_r _ [28, 29, 30, 7, 31, 32, 33, 34, 35, 36, 37, 38, 39, 40, 16, 17, 18, 41, 42, 43, 44, 45, 46, 47, 48, 49, 50, 51, 52, 53, 54, 55] (by decide +kernel) (by decide +kernel)
set_option maxRecDepth 20000 in
theorem gX11_lots_X11_weeksOn : GoodIn wsX11_lots (va_wsS RX11 119 yX11_weeksOn wsX11_weeksOn) := goodIn_app (goodIn_of _ (by decide +kernel)) ggX11_lots_X11_weeksOn
set_option maxRecDepth 20000 in
theorem ggX11_lots_X11_hereIn : GoodIn wsX11_lots wsX11_hereIn := goodIn_r _ [58, 35, 36, 7, 37] (by decide +kernel) (by decide +kernel)
set_option maxRecDepth 20000 in
theorem gX11_lots_X11_hereIn : GoodIn wsX11_lots (va_wsS RX11 136 yX11_hereIn wsX11_hereIn) := goodIn_app (goodIn_of _ (by decide +kernel)) ggX11_lots_X11_hereIn
set_option maxRecDepth 20000 in
theorem ggX11_lots_X11_bits : GoodIn wsX11_lots wsX11_bits := goodIn_r _ [61] (by decide +kernel) (by decide +kernel)
