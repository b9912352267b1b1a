theorem dX8_rememberAs_7 : decode cX8_rememberAs 7 = .ok (.if_icmp .ge 35, 3) := by decide +kernel
theorem dX8_rememberAs_10 : decode cX8_rememberAs 10 = .ok (.iload_n 3, 1) := by decide +kernel
theorem dX8_rememberAs_11 : decode cX8_rememberAs 11 = .ok (.iload_n 1, 1) := by decide +kernel
theorem dX8_rememberAs_12 : decode cX8_rememberAs 12 = .ok (.if_icmp .eq 24, 3) := by decide +kernel
theorem dX8_rememberAs_15 : decode cX8_rememberAs 15 = .ok (.aload_n 0, 1) := by decide +kernel
theorem dX8_rememberAs_16 : decode cX8_rememberAs 16 = .ok (.getfield 21, 3) := by decide +kernel
theorem dX8_rememberAs_19 : decode cX8_rememberAs 19 = .ok (.iload_n 3, 1) := by decide +kernel
theorem dX8_rememberAs_20 : decode cX8_rememberAs 20 = .ok (.baload, 1) := by decide +kernel
theorem dX8_rememberAs_21 : decode cX8_rememberAs 21 = .ok (.ifCond .eq 15, 3) := by decide +kernel
theorem dX8_rememberAs_24 : decode cX8_rememberAs 24 = .ok (.aload_n 0, 1) := by decide +kernel
theorem dX8_rememberAs_25 : decode cX8_rememberAs 25 = .ok (.getfield 25, 3) := by decide +kernel
theorem dX8_rememberAs_28 : decode cX8_rememberAs 28 = .ok (.iload_n 3, 1) := by decide +kernel
theorem dX8_rememberAs_29 : decode cX8_rememberAs 29 = .ok (.bipush 8, 2) := by decide +kernel
theorem dX8_rememberAs_31 : decode cX8_rememberAs 31 = .ok (.imul, 1) := by decide +kernel
theorem dX8_rememberAs_32 : decode cX8_rememberAs 32 = .ok (.iload_n 1, 1) := by decide +kernel
theorem dX8_rememberAs_33 : decode cX8_rememberAs 33 = .ok (.iadd, 1) := by decide +kernel
theorem dX8_rememberAs_34 : decode cX8_rememberAs 34 = .ok (.iload_n 2, 1) := by decide +kernel
theorem dX8_rememberAs_35 : decode cX8_rememberAs 35 = .ok (.iastore, 1) := by decide +kernel
theorem dX8_rememberAs_36 : decode cX8_rememberAs 36 = .ok (.iinc 3 1, 3) := by decide +kernel
theorem dX8_rememberAs_39 : decode cX8_rememberAs 39 = .ok (.goto (-37), 3) := by decide +kernel
theorem dX8_rememberAs_42 : decode cX8_rememberAs 42 = .ok (.return_, 1) := by decide +kernel
set_option maxRecDepth 20000 in
theorem ggX8_rememberMore_X8_addMemory : GoodIn wsX8_rememberMore wsX8_addMemory := goodIn_r _ [7, 8, 9, 10, 11, 12, 13, 14, 15, 16, 17, 18, 19, 20, 21] (by decide +kernel) (by decide +kernel)
set_option maxRecDepth 20000 in
theorem gX8_rememberMore_X8_addMemory : GoodIn wsX8_rememberMore (wsV RX8 70 RX8 yX8_addMemory wsX8_addMemory) := goodIn_app (goodIn_of _ (by decide +kernel)) ggX8_rememberMore_X8_addMemory
theorem dX8_rememberMore_0 : decode cX8_rememberMore 0 = .ok (.iconst 0, 1) := by decide +kernel
theorem dX8_rememberMore_1 : decode cX8_rememberMore 1 = .ok (.istore_n 3, 1) := by decide +kernel
theorem dX8_rememberMore_2 : decode cX8_rememberMore 2 = .ok (.iload_n 3, 1) := by decide +kernel
theorem dX8_rememberMore_3 : decode cX8_rememberMore 3 = .ok (.aload_n 0, 1) := by decide +kernel
theorem dX8_rememberMore_4 : decode cX8_rememberMore 4 = .ok (.getfield 28, 3) := by decide +kernel
theorem dX8_rememberMore_7 : decode cX8_rememberMore 7 = .ok (.if_icmp .ge 30, 3) := by decide +kernel
theorem dX8_rememberMore_10 : decode cX8_rememberMore 10 = .ok (.iload_n 3, 1) := by decide +kernel
theorem dX8_rememberMore_11 : decode cX8_rememberMore 11 = .ok (.iload_n 1, 1) := by decide +kernel
theorem dX8_rememberMore_12 : decode cX8_rememberMore 12 = .ok (.if_icmp .eq 19, 3) := by decide +kernel
theorem dX8_rememberMore_15 : decode cX8_rememberMore 15 = .ok (.aload_n 0, 1) := by decide +kernel
theorem dX8_rememberMore_16 : decode cX8_rememberMore 16 = .ok (.getfield 21, 3) := by decide +kernel
theorem dX8_rememberMore_19 : decode cX8_rememberMore 19 = .ok (.iload_n 3, 1) := by decide +kernel
theorem dX8_rememberMore_20 : decode cX8_rememberMore 20 = .ok (.baload, 1) := by decide +kernel
theorem dX8_rememberMore_21 : decode cX8_rememberMore 21 = .ok (.ifCond .eq 10, 3) := by decide +kernel
theorem dX8_rememberMore_24 : decode cX8_rememberMore 24 = .ok (.aload_n 0, 1) := by decide +kernel
theorem dX8_rememberMore_25 : decode cX8_rememberMore 25 = .ok (.iload_n 3, 1) := by decide +kernel
theorem dX8_rememberMore_26 : decode cX8_rememberMore 26 = .ok (.iload_n 1, 1) := by decide +kernel
theorem dX8_rememberMore_27 : decode cX8_rememberMore 27 = .ok (.iload_n 2, 1) := by decide +kernel
theorem dX8_rememberMore_28 : decode cX8_rememberMore 28 = .ok (.invokevirtual 70, 3) := by decide +kernel
theorem dX8_rememberMore_31 : decode cX8_rememberMore 31 = .ok (.iinc 3 1, 3) := by decide +kernel
theorem dX8_rememberMore_34 : decode cX8_rememberMore 34 = .ok (.goto (-32), 3) := by decide +kernel
theorem dX8_rememberMore_37 : decode cX8_rememberMore 37 = .ok (.return_, 1) := by decide +kernel
set_option maxRecDepth 20000 in
theorem ggX8_holdFeast_X8_rememberMore : GoodIn wsX8_holdFeast wsX8_rememberMore := goodIn_r _ [7, 1, 2, 8, 9, 10, 6, 11, 12, 13, 14, 15, 16, 17, 18, 19, 20, 21, 22, 23, 24, 25] (by decide +kernel) (by decide +kernel)
set_option maxRecDepth 20000 in
theorem gX8_holdFeast_X8_rememberMore : GoodIn wsX8_holdFeast (wsV RX8 84 RX8 yX8_rememberMore wsX8_rememberMore) := goodIn_app (goodIn_of _ (by decide +kernel)) ggX8_holdFeast_X8_rememberMore
theorem dX8_holdFeast_0 : decode cX8_holdFeast 0 = .ok (.iconst 0, 1) := by decide +kernel
theorem dX8_holdFeast_1 : decode cX8_holdFeast 1 = .ok (.istore_n 1, 1) := by decide +kernel
theorem dX8_holdFeast_2 : decode cX8_holdFeast 2 = .ok (.iload_n 1, 1) := by decide +kernel
theorem dX8_holdFeast_3 : decode cX8_holdFeast 3 = .ok (.aload_n 0, 1) := by decide +kernel
theorem dX8_holdFeast_4 : decode cX8_holdFeast 4 = .ok (.getfield 28, 3) := by decide +kernel
theorem dX8_holdFeast_7 : decode cX8_holdFeast 7 = .ok (.if_icmp .ge 24, 3) := by decide +kernel
theorem dX8_holdFeast_10 : decode cX8_holdFeast 10 = .ok (.aload_n 0, 1) := by decide +kernel
theorem dX8_holdFeast_11 : decode cX8_holdFeast 11 = .ok (.getfield 21, 3) := by decide +kernel
theorem dX8_holdFeast_14 : decode cX8_holdFeast 14 = .ok (.iload_n 1, 1) := by decide +kernel
theorem dX8_holdFeast_15 : decode cX8_holdFeast 15 = .ok (.baload, 1) := by decide +kernel
theorem dX8_holdFeast_16 : decode cX8_holdFeast 16 = .ok (.ifCond .eq 9, 3) := by decide +kernel
theorem dX8_holdFeast_19 : decode cX8_holdFeast 19 = .ok (.aload_n 0, 1) := by decide +kernel
theorem dX8_holdFeast_20 : decode cX8_holdFeast 20 = .ok (.iload_n 1, 1) := by decide +kernel
theorem dX8_holdFeast_21 : decode cX8_holdFeast 21 = .ok (.iconst 2, 1) := by decide +kernel
theorem dX8_holdFeast_22 : decode cX8_holdFeast 22 = .ok (.invokevirtual 84, 3) := by decide +kernel
theorem dX8_holdFeast_25 : decode cX8_holdFeast 25 = .ok (.iinc 1 1, 3) := by decide +kernel
theorem dX8_holdFeast_28 : decode cX8_holdFeast 28 = .ok (.goto (-26), 3) := by decide +kernel
theorem dX8_holdFeast_31 : decode cX8_holdFeast 31 = .ok (.return_, 1) := by decide +kernel
set_option maxRecDepth 20000 in
theorem ggX8_forgetOthers_X8_setMemory : GoodIn wsX8_forgetOthers wsX8_setMemory := goodIn_r _ [6, 7, 8, 9, 10, 11, 12, 13, 14, 15, 16] (by decide +kernel) (by decide +kernel)
set_option maxRecDepth 20000 in
theorem gX8_forgetOthers_X8_setMemory : GoodIn wsX8_forgetOthers (wsV RX8 66 RX8 yX8_setMemory wsX8_setMemory) := goodIn_app (goodIn_of _ (by decide +kernel)) ggX8_forgetOthers_X8_setMemory
theorem dX8_forgetOthers_0 : decode cX8_forgetOthers 0 = .ok (.iconst 0, 1) := by decide +kernel
theorem dX8_forgetOthers_1 : decode cX8_forgetOthers 1 = .ok (.istore_n 2, 1) := by decide +kernel
theorem dX8_forgetOthers_2 : decode cX8_forgetOthers 2 = .ok (.iload_n 2, 1) := by decide +kernel
theorem dX8_forgetOthers_3 : decode cX8_forgetOthers 3 = .ok (.aload_n 0, 1) := by decide +kernel
theorem dX8_forgetOthers_4 : decode cX8_forgetOthers 4 = .ok (.getfield 28, 3) := by decide +kernel
theorem dX8_forgetOthers_7 : decode cX8_forgetOthers 7 = .ok (.if_icmp .ge 16, 3) := by decide +kernel
theorem dX8_forgetOthers_10 : decode cX8_forgetOthers 10 = .ok (.aload_n 0, 1) := by decide +kernel
theorem dX8_forgetOthers_11 : decode cX8_forgetOthers 11 = .ok (.iload_n 1, 1) := by decide +kernel
theorem dX8_forgetOthers_12 : decode cX8_forgetOthers 12 = .ok (.iload_n 2, 1) := by decide +kernel
theorem dX8_forgetOthers_13 : decode cX8_forgetOthers 13 = .ok (.iconst 0, 1) := by decide +kernel
theorem dX8_forgetOthers_14 : decode cX8_forgetOthers 14 = .ok (.invokevirtual 66, 3) := by decide +kernel
theorem dX8_forgetOthers_17 : decode cX8_forgetOthers 17 = .ok (.iinc 2 1, 3) := by decide +kernel
theorem dX8_forgetOthers_20 : decode cX8_forgetOthers 20 = .ok (.goto (-18), 3) := by decide +kernel
theorem dX8_forgetOthers_23 : decode cX8_forgetOthers 23 = .ok (.return_, 1) := by decide +kernel
set_option maxRecDepth 20000 in
theorem ggX8_passWeeks_X8_passWeek : GoodIn wsX8_passWeeks wsX8_passWeek := goodIn_r _ [5, 6, 7, 8, 9, 10, 11, 12, 13, 14, 15, 16, 17, 18, 19, 20, 21, 22, 23, 24, 25, 26, 27, 28, 29, 30, 31, 32, 33, 34, 35, 36, 37, 38, 39, 40, 41, 42, 43, 44, 45, 46, 47, 48, 49, 50, 51, 4, 52, 53, 54, 55, 56, 57, 58, 59, 60, 61, 62, 63, 64, 65, 66, 67, 68, 69, 70, 71, 72, 73, 74, 75, 76, 77, 78, 79, 80, 81, 82, 83, 84, 85, 86, 87, 88, 89, 90, 91, 92, 93, 94, 95, 96, 97, 98, 99, 100, 101, 102, 103, 104, 105, 106, 107] (by decide +kernel) (by decide +kernel)
set_option maxRecDepth 20000 in
theorem gX8_passWeeks_X8_passWeek : GoodIn wsX8_passWeeks (wsV RX8 87 RX8 yX8_passWeek wsX8_passWeek) := goodIn_app (goodIn_of _ (by decide +kernel)) ggX8_passWeeks_X8_passWeek
theorem dX8_passWeeks_0 : decode cX8_passWeeks 0 = .ok (.iconst 0, 1) := by decide +kernel
theorem dX8_passWeeks_1 : decode cX8_passWeeks 1 = .ok (.istore_n 2, 1) := by decide +kernel
theorem dX8_passWeeks_2 : decode cX8_passWeeks 2 = .ok (.iload_n 2, 1) := by decide +kernel
theorem dX8_passWeeks_3 : decode cX8_passWeeks 3 = .ok (.iload_n 1, 1) := by decide +kernel
theorem dX8_passWeeks_4 : decode cX8_passWeeks 4 = .ok (.if_icmp .ge 13, 3) := by decide +kernel
theorem dX8_passWeeks_7 : decode cX8_passWeeks 7 = .ok (.aload_n 0, 1) := by decide +kernel
theorem dX8_passWeeks_8 : decode cX8_passWeeks 8 = .ok (.invokevirtual 87, 3) := by decide +kernel
theorem dX8_passWeeks_11 : decode cX8_passWeeks 11 = .ok (.iinc 2 1, 3) := by decide +kernel
theorem dX8_passWeeks_14 : decode cX8_passWeeks 14 = .ok (.goto (-12), 3) := by decide +kernel
theorem dX8_passWeeks_17 : decode cX8_passWeeks 17 = .ok (.return_, 1) := by decide +kernel
set_option maxRecDepth 20000 in
theorem ggX8_passWeek_X0_change : GoodIn wsX8_passWeek wsX0_change := goodIn_r _ [14] (by decide +kernel) (by decide +kernel)
set_option maxRecDepth 20000 in
theorem gX8_passWeek_X0_change_u90X0 : GoodIn wsX8_passWeek (va_wsO RX8 90 RX0 "SoManyForgotten$Person" ⟨"SoManyForgotten$Person", "change", "(III)I"⟩ yX0_change wsX0_change) := goodIn_app (goodIn_of _ (by decide +kernel)) ggX8_passWeek_X0_change
set_option maxRecDepth 20000 in
theorem ggX8_passWeek_X1_change : GoodIn wsX8_passWeek wsX1_change := goodIn_r _ [19] (by decide +kernel) (by decide +kernel)
set_option maxRecDepth 20000 in
theorem gX8_passWeek_X1_change_u90X1 : GoodIn wsX8_passWeek (va_wsO RX8 90 RX1 "SoManyForgotten$Person" ⟨"SoManyForgotten$Person", "change", "(III)I"⟩ yX1_change wsX1_change) := goodIn_app (goodIn_of _ (by decide +kernel)) ggX8_passWeek_X1_change
set_option maxRecDepth 20000 in
theorem ggX8_passWeek_X2_change : GoodIn wsX8_passWeek wsX2_change := goodIn_r _ [23, 24, 9, 25, 26, 27, 15] (by decide +kernel) (by decide +kernel)
set_option maxRecDepth 20000 in
theorem gX8_passWeek_X2_change_u90X2 : GoodIn wsX8_passWeek (va_wsO RX8 90 RX2 "SoManyForgotten$Person" ⟨"SoManyForgotten$Person", "change", "(III)I"⟩ yX2_change wsX2_change) := goodIn_app (goodIn_of _ (by decide +kernel)) ggX8_passWeek_X2_change
set_option maxRecDepth 20000 in
theorem ggX8_passWeek_X4_change : GoodIn wsX8_passWeek wsX4_change := goodIn_r _ [15] (by decide +kernel) (by decide +kernel)
set_option maxRecDepth 20000 in
theorem gX8_passWeek_X4_change : GoodIn wsX8_passWeek (wsV RX8 90 RX4 yX4_change wsX4_change) := goodIn_app (goodIn_of _ (by decide +kernel)) ggX8_passWeek_X4_change
set_option maxRecDepth 20000 in
theorem ggX8_passWeek_X5_change : GoodIn wsX8_passWeek wsX5_change := goodIn_r _ [33, 34, 35, 36, 12, 13, 14] (by decide +kernel) (by decide +kernel)
set_option maxRecDepth 20000 in
theorem gX8_passWeek_X5_change_u90X5 : GoodIn wsX8_passWeek (va_wsO RX8 90 RX5 "SoManyForgotten$Person" ⟨"SoManyForgotten$Person", "change", "(III)I"⟩ yX5_change wsX5_change) := goodIn_app (goodIn_of _ (by decide +kernel)) ggX8_passWeek_X5_change
set_option maxRecDepth 20000 in
theorem ggX8_passWeek_X9_change : GoodIn wsX8_passWeek wsX9_change := goodIn_r _ [40, 41, 42, 43, 21, 22, 23, 24, 9, 25, 26, 27, 15] (by decide +kernel) (by decide +kernel)
set_option maxRecDepth 20000 in
theorem gX8_passWeek_X9_change_u90X9 : GoodIn wsX8_passWeek (va_wsO RX8 90 RX9 "SoManyForgotten$Person" ⟨"SoManyForgotten$Person", "change", "(III)I"⟩ yX9_change wsX9_change) := goodIn_app (goodIn_of _ (by decide +kernel)) ggX8_passWeek_X9_change
set_option maxRecDepth 20000 in
theorem ggX8_passWeek_X8_rememberMore : GoodIn wsX8_passWeek wsX8_rememberMore := goodIn_r _ [48, 2, 3, 49, 50, 51, 47, 52, 53, 54, 55, 56, 57, 95, 96, 97, 98, 99, 100, 101, 102, 103] (by decide +kernel) (by decide +kernel)
set_option maxRecDepth 20000 in
theorem gX8_passWeek_X8_rememberMore : GoodIn wsX8_passWeek (wsV RX8 84 RX8 yX8_rememberMore wsX8_rememberMore) := goodIn_app (goodIn_of _ (by decide +kernel)) ggX8_passWeek_X8_rememberMore
set_option maxRecDepth 20000 in
theorem ggX8_passWeek_X8_passSpring : GoodIn wsX8_passWeek wsX8_passSpring := goodIn_r _ [61, 62, 63, 64, 65, 47, 66, 2, 3, 4, 5, 7, 67, 68, 69, 70, 27, 71, 72, 73, 74, 18, 75, 76, 77, 78, 79, 80, 81, 39, 82, 83, 84, 85, 86, 53, 87, 88, 89, 90, 6, 91, 92, 93, 94, 95, 96, 97, 98, 99, 100, 101, 102, 103] (by decide +kernel) (by decide +kernel)
set_option maxRecDepth 20000 in
theorem gX8_passWeek_X8_passSpring : GoodIn wsX8_passWeek (wsV RX8 94 RX8 yX8_passSpring wsX8_passSpring) := goodIn_app (goodIn_of _ (by decide +kernel)) ggX8_passWeek_X8_passSpring
theorem dX8_passWeek_0 : decode cX8_passWeek 0 = .ok (.aload_n 0, 1) := by decide +kernel
theorem dX8_passWeek_1 : decode cX8_passWeek 1 = .ok (.dup, 1) := by decide +kernel
theorem dX8_passWeek_2 : decode cX8_passWeek 2 = .ok (.getfield 35, 3) := by decide +kernel
theorem dX8_passWeek_5 : decode cX8_passWeek 5 = .ok (.iconst 1, 1) := by decide +kernel
theorem dX8_passWeek_6 : decode cX8_passWeek 6 = .ok (.iadd, 1) := by decide +kernel
theorem dX8_passWeek_7 : decode cX8_passWeek 7 = .ok (.putfield 35, 3) := by decide +kernel
theorem dX8_passWeek_10 : decode cX8_passWeek 10 = .ok (.iconst 0, 1) := by decide +kernel
theorem dX8_passWeek_11 : decode cX8_passWeek 11 = .ok (.istore_n 1, 1) := by decide +kernel
theorem dX8_passWeek_12 : decode cX8_passWeek 12 = .ok (.iload_n 1, 1) := by decide +kernel
theorem dX8_passWeek_13 : decode cX8_passWeek 13 = .ok (.aload_n 0, 1) := by decide +kernel
theorem dX8_passWeek_14 : decode cX8_passWeek 14 = .ok (.getfield 28, 3) := by decide +kernel
theorem dX8_passWeek_17 : decode cX8_passWeek 17 = .ok (.if_icmp .ge 63, 3) := by decide +kernel
theorem dX8_passWeek_20 : decode cX8_passWeek 20 = .ok (.aload_n 0, 1) := by decide +kernel
theorem dX8_passWeek_21 : decode cX8_passWeek 21 = .ok (.getfield 21, 3) := by decide +kernel
theorem dX8_passWeek_24 : decode cX8_passWeek 24 = .ok (.iload_n 1, 1) := by decide +kernel
theorem dX8_passWeek_25 : decode cX8_passWeek 25 = .ok (.baload, 1) := by decide +kernel
theorem dX8_passWeek_26 : decode cX8_passWeek 26 = .ok (.ifCond .eq 36, 3) := by decide +kernel
theorem dX8_passWeek_29 : decode cX8_passWeek 29 = .ok (.aload_n 0, 1) := by decide +kernel
theorem dX8_passWeek_30 : decode cX8_passWeek 30 = .ok (.getfield 38, 3) := by decide +kernel
theorem dX8_passWeek_33 : decode cX8_passWeek 33 = .ok (.aload_n 0, 1) := by decide +kernel
theorem dX8_passWeek_34 : decode cX8_passWeek 34 = .ok (.getfield 9, 3) := by decide +kernel
theorem dX8_passWeek_37 : decode cX8_passWeek 37 = .ok (.iload_n 1, 1) := by decide +kernel
theorem dX8_passWeek_38 : decode cX8_passWeek 38 = .ok (.iaload, 1) := by decide +kernel
theorem dX8_passWeek_39 : decode cX8_passWeek 39 = .ok (.aaload, 1) := by decide +kernel
theorem dX8_passWeek_40 : decode cX8_passWeek 40 = .ok (.aload_n 0, 1) := by decide +kernel
theorem dX8_passWeek_41 : decode cX8_passWeek 41 = .ok (.getfield 35, 3) := by decide +kernel
theorem dX8_passWeek_44 : decode cX8_passWeek 44 = .ok (.aload_n 0, 1) := by decide +kernel
theorem dX8_passWeek_45 : decode cX8_passWeek 45 = .ok (.getfield 18, 3) := by decide +kernel
theorem dX8_passWeek_48 : decode cX8_passWeek 48 = .ok (.iload_n 1, 1) := by decide +kernel
theorem dX8_passWeek_49 : decode cX8_passWeek 49 = .ok (.iaload, 1) := by decide +kernel
theorem dX8_passWeek_50 : decode cX8_passWeek 50 = .ok (.aload_n 0, 1) := by decide +kernel
theorem dX8_passWeek_51 : decode cX8_passWeek 51 = .ok (.getfield 15, 3) := by decide +kernel
theorem dX8_passWeek_54 : decode cX8_passWeek 54 = .ok (.iload_n 1, 1) := by decide +kernel
theorem dX8_passWeek_55 : decode cX8_passWeek 55 = .ok (.iaload, 1) := by decide +kernel
theorem dX8_passWeek_56 : decode cX8_passWeek 56 = .ok (.invokevirtual 90, 3) := by decide +kernel
theorem dX8_passWeek_59 : decode cX8_passWeek 59 = .ok (.goto 4, 3) := by decide +kernel
theorem dX8_passWeek_62 : decode cX8_passWeek 62 = .ok (.iconst 0, 1) := by decide +kernel
theorem dX8_passWeek_63 : decode cX8_passWeek 63 = .ok (.istore_n 2, 1) := by decide +kernel
theorem dX8_passWeek_64 : decode cX8_passWeek 64 = .ok (.iload_n 2, 1) := by decide +kernel
theorem dX8_passWeek_65 : decode cX8_passWeek 65 = .ok (.ifCond .eq 9, 3) := by decide +kernel
theorem dX8_passWeek_68 : decode cX8_passWeek 68 = .ok (.aload_n 0, 1) := by decide +kernel
theorem dX8_passWeek_69 : decode cX8_passWeek 69 = .ok (.iload_n 1, 1) := by decide +kernel
theorem dX8_passWeek_70 : decode cX8_passWeek 70 = .ok (.iload_n 2, 1) := by decide +kernel
theorem dX8_passWeek_71 : decode cX8_passWeek 71 = .ok (.invokevirtual 84, 3) := by decide +kernel
theorem dX8_passWeek_74 : decode cX8_passWeek 74 = .ok (.iinc 1 1, 3) := by decide +kernel
theorem dX8_passWeek_77 : decode cX8_passWeek 77 = .ok (.goto (-65), 3) := by decide +kernel
theorem dX8_passWeek_80 : decode cX8_passWeek 80 = .ok (.aload_n 0, 1) := by decide +kernel
theorem dX8_passWeek_81 : decode cX8_passWeek 81 = .ok (.getfield 35, 3) := by decide +kernel
theorem dX8_passWeek_84 : decode cX8_passWeek 84 = .ok (.bipush 10, 2) := by decide +kernel
theorem dX8_passWeek_86 : decode cX8_passWeek 86 = .ok (.irem, 1) := by decide +kernel
theorem dX8_passWeek_87 : decode cX8_passWeek 87 = .ok (.ifCond .ne 7, 3) := by decide +kernel
theorem dX8_passWeek_90 : decode cX8_passWeek 90 = .ok (.aload_n 0, 1) := by decide +kernel
theorem dX8_passWeek_91 : decode cX8_passWeek 91 = .ok (.invokevirtual 94, 3) := by decide +kernel
theorem dX8_passWeek_94 : decode cX8_passWeek 94 = .ok (.return_, 1) := by decide +kernel
set_option maxRecDepth 20000 in
theorem ggX8_passSpring_X8_leastKnown : GoodIn wsX8_passSpring wsX8_leastKnown := goodIn_r _ [6, 7, 8, 9, 10, 11, 12, 13, 14, 15, 16, 17, 18, 19, 20, 21, 22, 23, 24, 25, 26, 27, 28, 29, 30, 31, 32, 33, 5, 34, 35, 45, 46, 47, 48, 49, 50, 51, 52, 53] (by decide +kernel) (by decide +kernel)
set_option maxRecDepth 20000 in
theorem gX8_passSpring_X8_leastKnown : GoodIn wsX8_passSpring (wsV RX8 97 RX8 yX8_leastKnown wsX8_leastKnown) := goodIn_app (goodIn_of _ (by decide +kernel)) ggX8_passSpring_X8_leastKnown
set_option maxRecDepth 20000 in
theorem ggX8_passSpring_X8_forget : GoodIn wsX8_passSpring wsX8_forget := goodIn_r _ [39, 8, 40, 41, 42, 43, 5, 44, 7, 35, 45, 46, 47, 48, 49, 50, 51, 52, 53] (by decide +kernel) (by decide +kernel)
set_option maxRecDepth 20000 in
theorem gX8_passSpring_X8_forget : GoodIn wsX8_passSpring (wsV RX8 101 RX8 yX8_forget wsX8_forget) := goodIn_app (goodIn_of _ (by decide +kernel)) ggX8_passSpring_X8_forget
theorem dX8_passSpring_0 : decode cX8_passSpring 0 = .ok (.iconst 0, 1) := by decide +kernel
theorem dX8_passSpring_1 : decode cX8_passSpring 1 = .ok (.istore_n 1, 1) := by decide +kernel
theorem dX8_passSpring_2 : decode cX8_passSpring 2 = .ok (.iload_n 1, 1) := by decide +kernel
theorem dX8_passSpring_3 : decode cX8_passSpring 3 = .ok (.aload_n 0, 1) := by decide +kernel
theorem dX8_passSpring_4 : decode cX8_passSpring 4 = .ok (.getfield 32, 3) := by decide +kernel
theorem dX8_passSpring_7 : decode cX8_passSpring 7 = .ok (.if_icmp .ge 25, 3) := by decide +kernel
theorem dX8_passSpring_10 : decode cX8_passSpring 10 = .ok (.aload_n 0, 1) := by decide +kernel
theorem dX8_passSpring_11 : decode cX8_passSpring 11 = .ok (.invokevirtual 97, 3) := by decide +kernel
theorem dX8_passSpring_14 : decode cX8_passSpring 14 = .ok (.istore_n 2, 1) := by decide +kernel
theorem dX8_passSpring_15 : decode cX8_passSpring 15 = .ok (.iload_n 2, 1) := by decide +kernel
theorem dX8_passSpring_16 : decode cX8_passSpring 16 = .ok (.bipush (-9), 2) := by decide +kernel
theorem dX8_passSpring_18 : decode cX8_passSpring 18 = .ok (.if_icmp .eq 8, 3) := by decide +kernel
theorem dX8_passSpring_21 : decode cX8_passSpring 21 = .ok (.aload_n 0, 1) := by decide +kernel
theorem dX8_passSpring_22 : decode cX8_passSpring 22 = .ok (.iload_n 2, 1) := by decide +kernel
theorem dX8_passSpring_23 : decode cX8_passSpring 23 = .ok (.invokevirtual 101, 3) := by decide +kernel
theorem dX8_passSpring_26 : decode cX8_passSpring 26 = .ok (.iinc 1 1, 3) := by decide +kernel
theorem dX8_passSpring_29 : decode cX8_passSpring 29 = .ok (.goto (-27), 3) := by decide +kernel
theorem dX8_passSpring_32 : decode cX8_passSpring 32 = .ok (.return_, 1) := by decide +kernel
theorem dX8_knownOf_0 : decode cX8_knownOf 0 = .ok (.iconst 0, 1) := by decide +kernel
theorem dX8_knownOf_1 : decode cX8_knownOf 1 = .ok (.istore_n 2, 1) := by decide +kernel
theorem dX8_knownOf_2 : decode cX8_knownOf 2 = .ok (.iconst 0, 1) := by decide +kernel
theorem dX8_knownOf_3 : decode cX8_knownOf 3 = .ok (.istore_n 3, 1) := by decide +kernel
theorem dX8_knownOf_4 : decode cX8_knownOf 4 = .ok (.iload_n 3, 1) := by decide +kernel
theorem dX8_knownOf_5 : decode cX8_knownOf 5 = .ok (.aload_n 0, 1) := by decide +kernel
theorem dX8_knownOf_6 : decode cX8_knownOf 6 = .ok (.getfield 28, 3) := by decide +kernel
theorem dX8_knownOf_9 : decode cX8_knownOf 9 = .ok (.if_icmp .ge 37, 3) := by decide +kernel
theorem dX8_knownOf_12 : decode cX8_knownOf 12 = .ok (.iload_n 3, 1) := by decide +kernel
theorem dX8_knownOf_13 : decode cX8_knownOf 13 = .ok (.iload_n 1, 1) := by decide +kernel
theorem dX8_knownOf_14 : decode cX8_knownOf 14 = .ok (.if_icmp .eq 26, 3) := by decide +kernel
theorem dX8_knownOf_17 : decode cX8_knownOf 17 = .ok (.aload_n 0, 1) := by decide +kernel
theorem dX8_knownOf_18 : decode cX8_knownOf 18 = .ok (.getfield 21, 3) := by decide +kernel
theorem dX8_knownOf_21 : decode cX8_knownOf 21 = .ok (.iload_n 3, 1) := by decide +kernel
theorem dX8_knownOf_22 : decode cX8_knownOf 22 = .ok (.baload, 1) := by decide +kernel
theorem dX8_knownOf_23 : decode cX8_knownOf 23 = .ok (.ifCond .eq 17, 3) := by decide +kernel
theorem dX8_knownOf_26 : decode cX8_knownOf 26 = .ok (.iload_n 2, 1) := by decide +kernel
theorem dX8_knownOf_27 : decode cX8_knownOf 27 = .ok (.aload_n 0, 1) := by decide +kernel
theorem dX8_knownOf_28 : decode cX8_knownOf 28 = .ok (.getfield 25, 3) := by decide +kernel
theorem dX8_knownOf_31 : decode cX8_knownOf 31 = .ok (.iload_n 3, 1) := by decide +kernel
theorem dX8_knownOf_32 : decode cX8_knownOf 32 = .ok (.bipush 8, 2) := by decide +kernel
theorem dX8_knownOf_34 : decode cX8_knownOf 34 = .ok (.imul, 1) := by decide +kernel
theorem dX8_knownOf_35 : decode cX8_knownOf 35 = .ok (.iload_n 1, 1) := by decide +kernel
theorem dX8_knownOf_36 : decode cX8_knownOf 36 = .ok (.iadd, 1) := by decide +kernel
theorem dX8_knownOf_37 : decode cX8_knownOf 37 = .ok (.iaload, 1) := by decide +kernel
theorem dX8_knownOf_38 : decode cX8_knownOf 38 = .ok (.iadd, 1) := by decide +kernel
theorem dX8_knownOf_39 : decode cX8_knownOf 39 = .ok (.istore_n 2, 1) := by decide +kernel
theorem dX8_knownOf_40 : decode cX8_knownOf 40 = .ok (.iinc 3 1, 3) := by decide +kernel
theorem dX8_knownOf_43 : decode cX8_knownOf 43 = .ok (.goto (-39), 3) := by decide +kernel
theorem dX8_knownOf_46 : decode cX8_knownOf 46 = .ok (.iload_n 2, 1) := by decide +kernel
theorem dX8_knownOf_47 : decode cX8_knownOf 47 = .ok (.ireturn, 1) := by decide +kernel
set_option maxRecDepth 20000 in
theorem ggX8_leastKnown_X4_isNamed : GoodIn wsX8_leastKnown wsX4_isNamed := goodIn_r _ [11] (by decide +kernel) (by decide +kernel)
set_option maxRecDepth 20000 in
theorem gX8_leastKnown_X4_isNamed_u55X0 : GoodIn wsX8_leastKnown (va_wsU RX8 55 RX0 "SoManyForgotten$Person" ⟨"SoManyForgotten$Person", "isNamed", "(I)Z"⟩ yX4_isNamed wsX4_isNamed) := goodIn_app (goodIn_of _ (by decide +kernel)) ggX8_leastKnown_X4_isNamed
set_option maxRecDepth 20000 in
theorem ggX8_leastKnown_X1_isNamed : GoodIn wsX8_leastKnown wsX1_isNamed := goodIn_r _ [16] (by decide +kernel) (by decide +kernel)
set_option maxRecDepth 20000 in
theorem gX8_leastKnown_X1_isNamed_u55X1 : GoodIn wsX8_leastKnown (va_wsO RX8 55 RX1 "SoManyForgotten$Person" ⟨"SoManyForgotten$Person", "isNamed", "(I)Z"⟩ yX1_isNamed wsX1_isNamed) := goodIn_app (goodIn_of _ (by decide +kernel)) ggX8_leastKnown_X1_isNamed
set_option maxRecDepth 20000 in
theorem gX8_leastKnown_X4_isNamed_u55X2 : GoodIn wsX8_leastKnown (va_wsU RX8 55 RX2 "SoManyForgotten$Person" ⟨"SoManyForgotten$Person", "isNamed", "(I)Z"⟩ yX4_isNamed wsX4_isNamed) := goodIn_app (goodIn_of _ (by decide +kernel)) ggX8_leastKnown_X4_isNamed
set_option maxRecDepth 20000 in
theorem gX8_leastKnown_X4_isNamed : GoodIn wsX8_leastKnown (wsV RX8 55 RX4 yX4_isNamed wsX4_isNamed) := goodIn_app (goodIn_of _ (by decide +kernel)) ggX8_leastKnown_X4_isNamed
set_option maxRecDepth 20000 in
theorem gX8_leastKnown_X4_isNamed_u55X5 : GoodIn wsX8_leastKnown (va_wsU RX8 55 RX5 "SoManyForgotten$Person" ⟨"SoManyForgotten$Person", "isNamed", "(I)Z"⟩ yX4_isNamed wsX4_isNamed) := goodIn_app (goodIn_of _ (by decide +kernel)) ggX8_leastKnown_X4_isNamed
set_option maxRecDepth 20000 in
theorem ggX8_leastKnown_X9_isNamed : GoodIn wsX8_leastKnown wsX9_isNamed := goodIn_r _ [24] (by decide +kernel) (by decide +kernel)
set_option maxRecDepth 20000 in
theorem gX8_leastKnown_X9_isNamed_u55X9 : GoodIn wsX8_leastKnown (va_wsO RX8 55 RX9 "SoManyForgotten$Person" ⟨"SoManyForgotten$Person", "isNamed", "(I)Z"⟩ yX9_isNamed wsX9_isNamed) := goodIn_app (goodIn_of _ (by decide +kernel)) ggX8_leastKnown_X9_isNamed
set_option maxRecDepth 20000 in
theorem ggX8_leastKnown_X8_knownOf : GoodIn wsX8_leastKnown wsX8_knownOf := goodIn_r _ [29, 1, 2, 30, 31, 32, 33, 34, 35, 36, 37, 38, 39] (by decide +kernel) (by decide +kernel)
set_option maxRecDepth 20000 in
theorem gX8_leastKnown_X8_knownOf : GoodIn wsX8_leastKnown (wsV RX8 105 RX8 yX8_knownOf wsX8_knownOf) := goodIn_app (goodIn_of _ (by decide +kernel)) ggX8_leastKnown_X8_knownOf
theorem dX8_leastKnown_0 : decode cX8_leastKnown 0 = .ok (.bipush (-9), 2) := by decide +kernel
theorem dX8_leastKnown_2 : decode cX8_leastKnown 2 = .ok (.istore_n 1, 1) := by decide +kernel
theorem dX8_leastKnown_3 : decode cX8_leastKnown 3 = .ok (.iconst 0, 1) := by decide +kernel
theorem dX8_leastKnown_4 : decode cX8_leastKnown 4 = .ok (.istore_n 2, 1) := by decide +kernel
theorem dX8_leastKnown_5 : decode cX8_leastKnown 5 = .ok (.iconst 0, 1) := by decide +kernel
theorem dX8_leastKnown_6 : decode cX8_leastKnown 6 = .ok (.istore_n 3, 1) := by decide +kernel
theorem dX8_leastKnown_7 : decode cX8_leastKnown 7 = .ok (.iload_n 3, 1) := by decide +kernel
theorem dX8_leastKnown_8 : decode cX8_leastKnown 8 = .ok (.aload_n 0, 1) := by decide +kernel
theorem dX8_leastKnown_9 : decode cX8_leastKnown 9 = .ok (.getfield 28, 3) := by decide +kernel
theorem dX8_leastKnown_12 : decode cX8_leastKnown 12 = .ok (.if_icmp .ge 65, 3) := by decide +kernel
theorem dX8_leastKnown_15 : decode cX8_leastKnown 15 = .ok (.aload_n 0, 1) := by decide +kernel
theorem dX8_leastKnown_16 : decode cX8_leastKnown 16 = .ok (.getfield 21, 3) := by decide +kernel
theorem dX8_leastKnown_19 : decode cX8_leastKnown 19 = .ok (.iload_n 3, 1) := by decide +kernel
theorem dX8_leastKnown_20 : decode cX8_leastKnown 20 = .ok (.baload, 1) := by decide +kernel
theorem dX8_leastKnown_21 : decode cX8_leastKnown 21 = .ok (.ifCond .eq 50, 3) := by decide +kernel
theorem dX8_leastKnown_24 : decode cX8_leastKnown 24 = .ok (.aload_n 0, 1) := by decide +kernel
theorem dX8_leastKnown_25 : decode cX8_leastKnown 25 = .ok (.getfield 38, 3) := by decide +kernel
theorem dX8_leastKnown_28 : decode cX8_leastKnown 28 = .ok (.aload_n 0, 1) := by decide +kernel
theorem dX8_leastKnown_29 : decode cX8_leastKnown 29 = .ok (.getfield 9, 3) := by decide +kernel
theorem dX8_leastKnown_32 : decode cX8_leastKnown 32 = .ok (.iload_n 3, 1) := by decide +kernel
theorem dX8_leastKnown_33 : decode cX8_leastKnown 33 = .ok (.iaload, 1) := by decide +kernel
theorem dX8_leastKnown_34 : decode cX8_leastKnown 34 = .ok (.aaload, 1) := by decide +kernel
theorem dX8_leastKnown_35 : decode cX8_leastKnown 35 = .ok (.aload_n 0, 1) := by decide +kernel
theorem dX8_leastKnown_36 : decode cX8_leastKnown 36 = .ok (.getfield 15, 3) := by decide +kernel
theorem dX8_leastKnown_39 : decode cX8_leastKnown 39 = .ok (.iload_n 3, 1) := by decide +kernel
theorem dX8_leastKnown_40 : decode cX8_leastKnown 40 = .ok (.iaload, 1) := by decide +kernel
theorem dX8_leastKnown_41 : decode cX8_leastKnown 41 = .ok (.invokevirtual 55, 3) := by decide +kernel
theorem dX8_leastKnown_44 : decode cX8_leastKnown 44 = .ok (.ifCond .eq 27, 3) := by decide +kernel
theorem dX8_leastKnown_47 : decode cX8_leastKnown 47 = .ok (.aload_n 0, 1) := by decide +kernel
theorem dX8_leastKnown_48 : decode cX8_leastKnown 48 = .ok (.iload_n 3, 1) := by decide +kernel
theorem dX8_leastKnown_49 : decode cX8_leastKnown 49 = .ok (.invokevirtual 105, 3) := by decide +kernel
theorem dX8_leastKnown_52 : decode cX8_leastKnown 52 = .ok (.istore 4, 2) := by decide +kernel
theorem dX8_leastKnown_54 : decode cX8_leastKnown 54 = .ok (.iload_n 1, 1) := by decide +kernel
theorem dX8_leastKnown_55 : decode cX8_leastKnown 55 = .ok (.bipush (-9), 2) := by decide +kernel
theorem dX8_leastKnown_57 : decode cX8_leastKnown 57 = .ok (.if_icmp .eq 9, 3) := by decide +kernel
theorem dX8_leastKnown_60 : decode cX8_leastKnown 60 = .ok (.iload 4, 2) := by decide +kernel
theorem dX8_leastKnown_62 : decode cX8_leastKnown 62 = .ok (.iload_n 2, 1) := by decide +kernel
theorem dX8_leastKnown_63 : decode cX8_leastKnown 63 = .ok (.if_icmp .ge 8, 3) := by decide +kernel
theorem dX8_leastKnown_66 : decode cX8_leastKnown 66 = .ok (.iload_n 3, 1) := by decide +kernel
theorem dX8_leastKnown_67 : decode cX8_leastKnown 67 = .ok (.istore_n 1, 1) := by decide +kernel
theorem dX8_leastKnown_68 : decode cX8_leastKnown 68 = .ok (.iload 4, 2) := by decide +kernel
theorem dX8_leastKnown_70 : decode cX8_leastKnown 70 = .ok (.istore_n 2, 1) := by decide +kernel
theorem dX8_leastKnown_71 : decode cX8_leastKnown 71 = .ok (.iinc 3 1, 3) := by decide +kernel
theorem dX8_leastKnown_74 : decode cX8_leastKnown 74 = .ok (.goto (-67), 3) := by decide +kernel
theorem dX8_leastKnown_77 : decode cX8_leastKnown 77 = .ok (.iload_n 1, 1) := by decide +kernel
theorem dX8_leastKnown_78 : decode cX8_leastKnown 78 = .ok (.ireturn, 1) := by decide +kernel
set_option maxRecDepth 20000 in
theorem ggX8_bestKnown_X8_knownOf : GoodIn wsX8_bestKnown wsX8_knownOf := goodIn_r _ [7, 1, 2, 8, 9, 10, 11, 12, 13, 14, 15, 16, 17] (by decide +kernel) (by decide +kernel)
set_option maxRecDepth 20000 in
theorem gX8_bestKnown_X8_knownOf : GoodIn wsX8_bestKnown (wsV RX8 105 RX8 yX8_knownOf wsX8_knownOf) := goodIn_app (goodIn_of _ (by decide +kernel)) ggX8_bestKnown_X8_knownOf
theorem dX8_bestKnown_0 : decode cX8_bestKnown 0 = .ok (.bipush (-9), 2) := by decide +kernel
theorem dX8_bestKnown_2 : decode cX8_bestKnown 2 = .ok (.istore_n 1, 1) := by decide +kernel
theorem dX8_bestKnown_3 : decode cX8_bestKnown 3 = .ok (.iconst (-1), 1) := by decide +kernel
theorem dX8_bestKnown_4 : decode cX8_bestKnown 4 = .ok (.istore_n 2, 1) := by decide +kernel
theorem dX8_bestKnown_5 : decode cX8_bestKnown 5 = .ok (.iconst 0, 1) := by decide +kernel
theorem dX8_bestKnown_6 : decode cX8_bestKnown 6 = .ok (.istore_n 3, 1) := by decide +kernel
theorem dX8_bestKnown_7 : decode cX8_bestKnown 7 = .ok (.iload_n 3, 1) := by decide +kernel
theorem dX8_bestKnown_8 : decode cX8_bestKnown 8 = .ok (.aload_n 0, 1) := by decide +kernel
theorem dX8_bestKnown_9 : decode cX8_bestKnown 9 = .ok (.getfield 28, 3) := by decide +kernel
theorem dX8_bestKnown_12 : decode cX8_bestKnown 12 = .ok (.if_icmp .ge 35, 3) := by decide +kernel
theorem dX8_bestKnown_15 : decode cX8_bestKnown 15 = .ok (.aload_n 0, 1) := by decide +kernel
theorem dX8_bestKnown_16 : decode cX8_bestKnown 16 = .ok (.getfield 21, 3) := by decide +kernel
theorem dX8_bestKnown_19 : decode cX8_bestKnown 19 = .ok (.iload_n 3, 1) := by decide +kernel
theorem dX8_bestKnown_20 : decode cX8_bestKnown 20 = .ok (.baload, 1) := by decide +kernel
theorem dX8_bestKnown_21 : decode cX8_bestKnown 21 = .ok (.ifCond .eq 20, 3) := by decide +kernel
theorem dX8_bestKnown_24 : decode cX8_bestKnown 24 = .ok (.aload_n 0, 1) := by decide +kernel
theorem dX8_bestKnown_25 : decode cX8_bestKnown 25 = .ok (.iload_n 3, 1) := by decide +kernel
theorem dX8_bestKnown_26 : decode cX8_bestKnown 26 = .ok (.invokevirtual 105, 3) := by decide +kernel
theorem dX8_bestKnown_29 : decode cX8_bestKnown 29 = .ok (.iload_n 2, 1) := by decide +kernel
theorem dX8_bestKnown_30 : decode cX8_bestKnown 30 = .ok (.if_icmp .le 11, 3) := by decide +kernel
theorem dX8_bestKnown_33 : decode cX8_bestKnown 33 = .ok (.iload_n 3, 1) := by decide +kernel
theorem dX8_bestKnown_34 : decode cX8_bestKnown 34 = .ok (.istore_n 1, 1) := by decide +kernel
theorem dX8_bestKnown_35 : decode cX8_bestKnown 35 = .ok (.aload_n 0, 1) := by decide +kernel
theorem dX8_bestKnown_36 : decode cX8_bestKnown 36 = .ok (.iload_n 3, 1) := by decide +kernel
theorem dX8_bestKnown_37 : decode cX8_bestKnown 37 = .ok (.invokevirtual 105, 3) := by decide +kernel
theorem dX8_bestKnown_40 : decode cX8_bestKnown 40 = .ok (.istore_n 2, 1) := by decide +kernel
theorem dX8_bestKnown_41 : decode cX8_bestKnown 41 = .ok (.iinc 3 1, 3) := by decide +kernel
theorem dX8_bestKnown_44 : decode cX8_bestKnown 44 = .ok (.goto (-37), 3) := by decide +kernel
theorem dX8_bestKnown_47 : decode cX8_bestKnown 47 = .ok (.iload_n 1, 1) := by decide +kernel
theorem dX8_bestKnown_48 : decode cX8_bestKnown 48 = .ok (.ireturn, 1) := by decide +kernel
theorem dX8_hereBits_0 : decode cX8_hereBits 0 = .ok (.iconst 0, 1) := by decide +kernel
theorem dX8_hereBits_1 : decode cX8_hereBits 1 = .ok (.istore_n 1, 1) := by decide +kernel
theorem dX8_hereBits_2 : decode cX8_hereBits 2 = .ok (.iconst 0, 1) := by decide +kernel
theorem dX8_hereBits_3 : decode cX8_hereBits 3 = .ok (.istore_n 2, 1) := by decide +kernel
theorem dX8_hereBits_4 : decode cX8_hereBits 4 = .ok (.iload_n 2, 1) := by decide +kernel
theorem dX8_hereBits_5 : decode cX8_hereBits 5 = .ok (.aload_n 0, 1) := by decide +kernel
theorem dX8_hereBits_6 : decode cX8_hereBits 6 = .ok (.getfield 28, 3) := by decide +kernel
theorem dX8_hereBits_9 : decode cX8_hereBits 9 = .ok (.if_icmp .ge 28, 3) := by decide +kernel
theorem dX8_hereBits_12 : decode cX8_hereBits 12 = .ok (.iload_n 1, 1) := by decide +kernel
theorem dX8_hereBits_13 : decode cX8_hereBits 13 = .ok (.aload_n 0, 1) := by decide +kernel
theorem dX8_hereBits_14 : decode cX8_hereBits 14 = .ok (.getfield 21, 3) := by decide +kernel
theorem dX8_hereBits_17 : decode cX8_hereBits 17 = .ok (.iload_n 2, 1) := by decide +kernel
theorem dX8_hereBits_18 : decode cX8_hereBits 18 = .ok (.baload, 1) := by decide +kernel
theorem dX8_hereBits_19 : decode cX8_hereBits 19 = .ok (.ifCond .eq 9, 3) := by decide +kernel
theorem dX8_hereBits_22 : decode cX8_hereBits 22 = .ok (.iconst 1, 1) := by decide +kernel
theorem dX8_hereBits_23 : decode cX8_hereBits 23 = .ok (.iload_n 2, 1) := by decide +kernel
theorem dX8_hereBits_24 : decode cX8_hereBits 24 = .ok (.ishl, 1) := by decide +kernel
theorem dX8_hereBits_25 : decode cX8_hereBits 25 = .ok (.goto 4, 3) := by decide +kernel
theorem dX8_hereBits_28 : decode cX8_hereBits 28 = .ok (.iconst 0, 1) := by decide +kernel
theorem dX8_hereBits_29 : decode cX8_hereBits 29 = .ok (.ior, 1) := by decide +kernel
theorem dX8_hereBits_30 : decode cX8_hereBits 30 = .ok (.istore_n 1, 1) := by decide +kernel
theorem dX8_hereBits_31 : decode cX8_hereBits 31 = .ok (.iinc 2 1, 3) := by decide +kernel
theorem dX8_hereBits_34 : decode cX8_hereBits 34 = .ok (.goto (-30), 3) := by decide +kernel
theorem dX8_hereBits_37 : decode cX8_hereBits 37 = .ok (.iload_n 1, 1) := by decide +kernel
theorem dX8_hereBits_38 : decode cX8_hereBits 38 = .ok (.ireturn, 1) := by decide +kernel
set_option maxRecDepth 20000 in
theorem ggX8_forgottenBits_X8_hereBits : GoodIn wsX8_forgottenBits wsX8_hereBits := goodIn_r _ [6, 1, 7, 8, 9, 10, 11, 12, 13, 14, 15, 16] (by decide +kernel) (by decide +kernel)
set_option maxRecDepth 20000 in
theorem gX8_forgottenBits_X8_hereBits : GoodIn wsX8_forgottenBits (wsV RX8 109 RX8 yX8_hereBits wsX8_hereBits) := goodIn_app (goodIn_of _ (by decide +kernel)) ggX8_forgottenBits_X8_hereBits
theorem dX8_forgottenBits_0 : decode cX8_forgottenBits 0 = .ok (.iconst 1, 1) := by decide +kernel
theorem dX8_forgottenBits_1 : decode cX8_forgottenBits 1 = .ok (.aload_n 0, 1) := by decide +kernel
theorem dX8_forgottenBits_2 : decode cX8_forgottenBits 2 = .ok (.getfield 28, 3) := by decide +kernel
theorem dX8_forgottenBits_5 : decode cX8_forgottenBits 5 = .ok (.ishl, 1) := by decide +kernel
theorem dX8_forgottenBits_6 : decode cX8_forgottenBits 6 = .ok (.iconst 1, 1) := by decide +kernel
theorem dX8_forgottenBits_7 : decode cX8_forgottenBits 7 = .ok (.isub, 1) := by decide +kernel
theorem dX8_forgottenBits_8 : decode cX8_forgottenBits 8 = .ok (.aload_n 0, 1) := by decide +kernel
theorem dX8_forgottenBits_9 : decode cX8_forgottenBits 9 = .ok (.invokevirtual 109, 3) := by decide +kernel
theorem dX8_forgottenBits_12 : decode cX8_forgottenBits 12 = .ok (.iconst (-1), 1) := by decide +kernel
theorem dX8_forgottenBits_13 : decode cX8_forgottenBits 13 = .ok (.ixor, 1) := by decide +kernel
theorem dX8_forgottenBits_14 : decode cX8_forgottenBits 14 = .ok (.iand, 1) := by decide +kernel
theorem dX8_forgottenBits_15 : decode cX8_forgottenBits 15 = .ok (.ireturn, 1) := by decide +kernel
set_option maxRecDepth 20000 in
theorem ggX8_countHere_X8_hereBits : GoodIn wsX8_countHere wsX8_hereBits := goodIn_r _ [5, 6, 7, 15, 16, 17, 18, 19, 20, 21, 22, 23] (by decide +kernel) (by decide +kernel)
set_option maxRecDepth 20000 in
theorem gX8_countHere_X8_hereBits : GoodIn wsX8_countHere (wsV RX8 109 RX8 yX8_hereBits wsX8_hereBits) := goodIn_app (goodIn_of _ (by decide +kernel)) ggX8_countHere_X8_hereBits
set_option maxRecDepth 20000 in
theorem ggX8_countHere_J6_bitCount_0f7a4 : GoodIn wsX8_countHere wsJ6_bitCount_0f7a4 := goodIn_r _ [11, 12, 13, 14] (by decide +kernel) (by decide +kernel)
set_option maxRecDepth 20000 in
theorem gX8_countHere_J6_bitCount_0f7a4 : GoodIn wsX8_countHere (va_wsS RX8 112 yJ6_bitCount_0f7a4 wsJ6_bitCount_0f7a4) := goodIn_app (goodIn_of _ (by decide +kernel)) ggX8_countHere_J6_bitCount_0f7a4
theorem dX8_countHere_0 : decode cX8_countHere 0 = .ok (.aload_n 0, 1) := by decide +kernel
theorem dX8_countHere_1 : decode cX8_countHere 1 = .ok (.invokevirtual 109, 3) := by decide +kernel
theorem dX8_countHere_4 : decode cX8_countHere 4 = .ok (.invokestatic 112, 3) := by decide +kernel
theorem dX8_countHere_7 : decode cX8_countHere 7 = .ok (.ireturn, 1) := by decide +kernel
set_option maxRecDepth 20000 in
theorem ggX8_knownTogether_X8_knownOf : GoodIn wsX8_knownTogether wsX8_knownOf := goodIn_r _ [7, 1, 2, 8, 9, 10, 11, 12, 13, 14, 15, 16, 17] (by decide +kernel) (by decide +kernel)
set_option maxRecDepth 20000 in
theorem gX8_knownTogether_X8_knownOf : GoodIn wsX8_knownTogether (wsV RX8 105 RX8 yX8_knownOf wsX8_knownOf) := goodIn_app (goodIn_of _ (by decide +kernel)) ggX8_knownTogether_X8_knownOf
theorem dX8_knownTogether_0 : decode cX8_knownTogether 0 = .ok (.iconst 0, 1) := by decide +kernel
theorem dX8_knownTogether_1 : decode cX8_knownTogether 1 = .ok (.istore_n 1, 1) := by decide +kernel
theorem dX8_knownTogether_2 : decode cX8_knownTogether 2 = .ok (.iconst 0, 1) := by decide +kernel
theorem dX8_knownTogether_3 : decode cX8_knownTogether 3 = .ok (.istore_n 2, 1) := by decide +kernel
theorem dX8_knownTogether_4 : decode cX8_knownTogether 4 = .ok (.iload_n 2, 1) := by decide +kernel
theorem dX8_knownTogether_5 : decode cX8_knownTogether 5 = .ok (.aload_n 0, 1) := by decide +kernel
theorem dX8_knownTogether_6 : decode cX8_knownTogether 6 = .ok (.getfield 28, 3) := by decide +kernel
theorem dX8_knownTogether_9 : decode cX8_knownTogether 9 = .ok (.if_icmp .ge 30, 3) := by decide +kernel
theorem dX8_knownTogether_12 : decode cX8_knownTogether 12 = .ok (.iload_n 1, 1) := by decide +kernel
theorem dX8_knownTogether_13 : decode cX8_knownTogether 13 = .ok (.aload_n 0, 1) := by decide +kernel
theorem dX8_knownTogether_14 : decode cX8_knownTogether 14 = .ok (.getfield 21, 3) := by decide +kernel
theorem dX8_knownTogether_17 : decode cX8_knownTogether 17 = .ok (.iload_n 2, 1) := by decide +kernel
theorem dX8_knownTogether_18 : decode cX8_knownTogether 18 = .ok (.baload, 1) := by decide +kernel
theorem dX8_knownTogether_19 : decode cX8_knownTogether 19 = .ok (.ifCond .eq 11, 3) := by decide +kernel
theorem dX8_knownTogether_22 : decode cX8_knownTogether 22 = .ok (.aload_n 0, 1) := by decide +kernel
theorem dX8_knownTogether_23 : decode cX8_knownTogether 23 = .ok (.iload_n 2, 1) := by decide +kernel
theorem dX8_knownTogether_24 : decode cX8_knownTogether 24 = .ok (.invokevirtual 105, 3) := by decide +kernel
theorem dX8_knownTogether_27 : decode cX8_knownTogether 27 = .ok (.goto 4, 3) := by decide +kernel
theorem dX8_knownTogether_30 : decode cX8_knownTogether 30 = .ok (.iconst 0, 1) := by decide +kernel
theorem dX8_knownTogether_31 : decode cX8_knownTogether 31 = .ok (.iadd, 1) := by decide +kernel
theorem dX8_knownTogether_32 : decode cX8_knownTogether 32 = .ok (.istore_n 1, 1) := by decide +kernel
theorem dX8_knownTogether_33 : decode cX8_knownTogether 33 = .ok (.iinc 2 1, 3) := by decide +kernel
theorem dX8_knownTogether_36 : decode cX8_knownTogether 36 = .ok (.goto (-32), 3) := by decide +kernel
theorem dX8_knownTogether_39 : decode cX8_knownTogether 39 = .ok (.iload_n 1, 1) := by decide +kernel
theorem dX8_knownTogether_40 : decode cX8_knownTogether 40 = .ok (.ireturn, 1) := by decide +kernel
theorem dX8_owedTogether_0 : decode cX8_owedTogether 0 = .ok (.iconst 0, 1) := by decide +kernel
theorem dX8_owedTogether_1 : decode cX8_owedTogether 1 = .ok (.istore_n 1, 1) := by decide +kernel
theorem dX8_owedTogether_2 : decode cX8_owedTogether 2 = .ok (.iconst 0, 1) := by decide +kernel
theorem dX8_owedTogether_3 : decode cX8_owedTogether 3 = .ok (.istore_n 2, 1) := by decide +kernel
theorem dX8_owedTogether_4 : decode cX8_owedTogether 4 = .ok (.iload_n 2, 1) := by decide +kernel
theorem dX8_owedTogether_5 : decode cX8_owedTogether 5 = .ok (.aload_n 0, 1) := by decide +kernel
theorem dX8_owedTogether_6 : decode cX8_owedTogether 6 = .ok (.getfield 28, 3) := by decide +kernel
theorem dX8_owedTogether_9 : decode cX8_owedTogether 9 = .ok (.if_icmp .ge 18, 3) := by decide +kernel
theorem dX8_owedTogether_12 : decode cX8_owedTogether 12 = .ok (.iload_n 1, 1) := by decide +kernel
theorem dX8_owedTogether_13 : decode cX8_owedTogether 13 = .ok (.aload_n 0, 1) := by decide +kernel
theorem dX8_owedTogether_14 : decode cX8_owedTogether 14 = .ok (.getfield 18, 3) := by decide +kernel
theorem dX8_owedTogether_17 : decode cX8_owedTogether 17 = .ok (.iload_n 2, 1) := by decide +kernel
theorem dX8_owedTogether_18 : decode cX8_owedTogether 18 = .ok (.iaload, 1) := by decide +kernel
theorem dX8_owedTogether_19 : decode cX8_owedTogether 19 = .ok (.iadd, 1) := by decide +kernel
theorem dX8_owedTogether_20 : decode cX8_owedTogether 20 = .ok (.istore_n 1, 1) := by decide +kernel
theorem dX8_owedTogether_21 : decode cX8_owedTogether 21 = .ok (.iinc 2 1, 3) := by decide +kernel
theorem dX8_owedTogether_24 : decode cX8_owedTogether 24 = .ok (.goto (-20), 3) := by decide +kernel
theorem dX8_owedTogether_27 : decode cX8_owedTogether 27 = .ok (.iload_n 1, 1) := by decide +kernel
theorem dX8_owedTogether_28 : decode cX8_owedTogether 28 = .ok (.ireturn, 1) := by decide +kernel
set_option maxRecDepth 20000 in
theorem ggX8_leagueOf_X8_areTwoHere : GoodIn wsX8_leagueOf wsX8_areTwoHere := goodIn_r _ [6, 7, 8, 9, 5, 10, 11, 12, 13, 14, 15, 1, 21, 22, 23, 24, 25, 26, 27, 28, 29] (by decide +kernel) (by decide +kernel)
set_option maxRecDepth 20000 in
theorem gX8_leagueOf_X8_areTwoHere : GoodIn wsX8_leagueOf (wsV RX8 73 RX8 yX8_areTwoHere wsX8_areTwoHere) := goodIn_app (goodIn_of _ (by decide +kernel)) ggX8_leagueOf_X8_areTwoHere
set_option maxRecDepth 20000 in
theorem ggX8_leagueOf_X8_memoryOf : GoodIn wsX8_leagueOf wsX8_memoryOf := goodIn_r _ [19, 20, 21, 22, 23, 24, 25, 26, 27, 28, 29] (by decide +kernel) (by decide +kernel)
set_option maxRecDepth 20000 in
theorem gX8_leagueOf_X8_memoryOf : GoodIn wsX8_leagueOf (wsV RX8 117 RX8 yX8_memoryOf wsX8_memoryOf) := goodIn_app (goodIn_of _ (by decide +kernel)) ggX8_leagueOf_X8_memoryOf
theorem dX8_leagueOf_0 : decode cX8_leagueOf 0 = .ok (.iconst 0, 1) := by decide +kernel
theorem dX8_leagueOf_1 : decode cX8_leagueOf 1 = .ok (.istore_n 2, 1) := by decide +kernel
theorem dX8_leagueOf_2 : decode cX8_leagueOf 2 = .ok (.iconst 0, 1) := by decide +kernel
theorem dX8_leagueOf_3 : decode cX8_leagueOf 3 = .ok (.istore_n 3, 1) := by decide +kernel
theorem dX8_leagueOf_4 : decode cX8_leagueOf 4 = .ok (.iload_n 3, 1) := by decide +kernel
theorem dX8_leagueOf_5 : decode cX8_leagueOf 5 = .ok (.aload_n 0, 1) := by decide +kernel
theorem dX8_leagueOf_6 : decode cX8_leagueOf 6 = .ok (.getfield 28, 3) := by decide +kernel
theorem dX8_leagueOf_9 : decode cX8_leagueOf 9 = .ok (.if_icmp .ge 46, 3) := by decide +kernel
theorem dX8_leagueOf_12 : decode cX8_leagueOf 12 = .ok (.aload_n 0, 1) := by decide +kernel
theorem dX8_leagueOf_13 : decode cX8_leagueOf 13 = .ok (.iload_n 1, 1) := by decide +kernel
theorem dX8_leagueOf_14 : decode cX8_leagueOf 14 = .ok (.iload_n 3, 1) := by decide +kernel
theorem dX8_leagueOf_15 : decode cX8_leagueOf 15 = .ok (.invokevirtual 73, 3) := by decide +kernel
theorem dX8_leagueOf_18 : decode cX8_leagueOf 18 = .ok (.ifCond .eq 31, 3) := by decide +kernel
theorem dX8_leagueOf_21 : decode cX8_leagueOf 21 = .ok (.aload_n 0, 1) := by decide +kernel
theorem dX8_leagueOf_22 : decode cX8_leagueOf 22 = .ok (.iload_n 1, 1) := by decide +kernel
theorem dX8_leagueOf_23 : decode cX8_leagueOf 23 = .ok (.iload_n 3, 1) := by decide +kernel
theorem dX8_leagueOf_24 : decode cX8_leagueOf 24 = .ok (.invokevirtual 117, 3) := by decide +kernel
theorem dX8_leagueOf_27 : decode cX8_leagueOf 27 = .ok (.bipush 50, 2) := by decide +kernel
theorem dX8_leagueOf_29 : decode cX8_leagueOf 29 = .ok (.if_icmp .lt 20, 3) := by decide +kernel
theorem dX8_leagueOf_32 : decode cX8_leagueOf 32 = .ok (.aload_n 0, 1) := by decide +kernel
theorem dX8_leagueOf_33 : decode cX8_leagueOf 33 = .ok (.iload_n 3, 1) := by decide +kernel
theorem dX8_leagueOf_34 : decode cX8_leagueOf 34 = .ok (.iload_n 1, 1) := by decide +kernel
theorem dX8_leagueOf_35 : decode cX8_leagueOf 35 = .ok (.invokevirtual 117, 3) := by decide +kernel
theorem dX8_leagueOf_38 : decode cX8_leagueOf 38 = .ok (.bipush 50, 2) := by decide +kernel
theorem dX8_leagueOf_40 : decode cX8_leagueOf 40 = .ok (.if_icmp .lt 9, 3) := by decide +kernel
theorem dX8_leagueOf_43 : decode cX8_leagueOf 43 = .ok (.iload_n 2, 1) := by decide +kernel
theorem dX8_leagueOf_44 : decode cX8_leagueOf 44 = .ok (.iconst 1, 1) := by decide +kernel
theorem dX8_leagueOf_45 : decode cX8_leagueOf 45 = .ok (.iload_n 3, 1) := by decide +kernel
theorem dX8_leagueOf_46 : decode cX8_leagueOf 46 = .ok (.ishl, 1) := by decide +kernel
theorem dX8_leagueOf_47 : decode cX8_leagueOf 47 = .ok (.ior, 1) := by decide +kernel
theorem dX8_leagueOf_48 : decode cX8_leagueOf 48 = .ok (.istore_n 2, 1) := by decide +kernel
theorem dX8_leagueOf_49 : decode cX8_leagueOf 49 = .ok (.iinc 3 1, 3) := by decide +kernel
theorem dX8_leagueOf_52 : decode cX8_leagueOf 52 = .ok (.goto (-48), 3) := by decide +kernel
theorem dX8_leagueOf_55 : decode cX8_leagueOf 55 = .ok (.iload_n 2, 1) := by decide +kernel
theorem dX8_leagueOf_56 : decode cX8_leagueOf 56 = .ok (.ireturn, 1) := by decide +kernel
set_option maxRecDepth 20000 in
theorem ggX8_areCold_X8_areTwoHere : GoodIn wsX8_areCold wsX8_areTwoHere := goodIn_r _ [5, 6, 7, 8, 4, 9, 10, 11, 12, 13, 14, 15, 21, 22, 23, 24, 25, 26, 27, 28, 29] (by decide +kernel) (by decide +kernel)
set_option maxRecDepth 20000 in
theorem gX8_areCold_X8_areTwoHere : GoodIn wsX8_areCold (wsV RX8 73 RX8 yX8_areTwoHere wsX8_areTwoHere) := goodIn_app (goodIn_of _ (by decide +kernel)) ggX8_areCold_X8_areTwoHere
set_option maxRecDepth 20000 in
theorem ggX8_areCold_X8_memoryOf : GoodIn wsX8_areCold wsX8_memoryOf := goodIn_r _ [19, 20, 21, 22, 23, 24, 25, 26, 27, 28, 29] (by decide +kernel) (by decide +kernel)
set_option maxRecDepth 20000 in
theorem gX8_areCold_X8_memoryOf : GoodIn wsX8_areCold (wsV RX8 117 RX8 yX8_memoryOf wsX8_memoryOf) := goodIn_app (goodIn_of _ (by decide +kernel)) ggX8_areCold_X8_memoryOf
theorem dX8_areCold_0 : decode cX8_areCold 0 = .ok (.aload_n 0, 1) := by decide +kernel
theorem dX8_areCold_1 : decode cX8_areCold 1 = .ok (.iload_n 1, 1) := by decide +kernel
theorem dX8_areCold_2 : decode cX8_areCold 2 = .ok (.iload_n 2, 1) := by decide +kernel
theorem dX8_areCold_3 : decode cX8_areCold 3 = .ok (.invokevirtual 73, 3) := by decide +kernel
theorem dX8_areCold_6 : decode cX8_areCold 6 = .ok (.ifCond .eq 25, 3) := by decide +kernel
theorem dX8_areCold_9 : decode cX8_areCold 9 = .ok (.aload_n 0, 1) := by decide +kernel
theorem dX8_areCold_10 : decode cX8_areCold 10 = .ok (.iload_n 1, 1) := by decide +kernel
theorem dX8_areCold_11 : decode cX8_areCold 11 = .ok (.iload_n 2, 1) := by decide +kernel
theorem dX8_areCold_12 : decode cX8_areCold 12 = .ok (.invokevirtual 117, 3) := by decide +kernel
theorem dX8_areCold_15 : decode cX8_areCold 15 = .ok (.ifCond .ne 16, 3) := by decide +kernel
theorem dX8_areCold_18 : decode cX8_areCold 18 = .ok (.aload_n 0, 1) := by decide +kernel
theorem dX8_areCold_19 : decode cX8_areCold 19 = .ok (.iload_n 2, 1) := by decide +kernel
theorem dX8_areCold_20 : decode cX8_areCold 20 = .ok (.iload_n 1, 1) := by decide +kernel
theorem dX8_areCold_21 : decode cX8_areCold 21 = .ok (.invokevirtual 117, 3) := by decide +kernel
theorem dX8_areCold_24 : decode cX8_areCold 24 = .ok (.ifCond .ne 7, 3) := by decide +kernel
theorem dX8_areCold_27 : decode cX8_areCold 27 = .ok (.iconst 1, 1) := by decide +kernel
theorem dX8_areCold_28 : decode cX8_areCold 28 = .ok (.goto 4, 3) := by decide +kernel
theorem dX8_areCold_31 : decode cX8_areCold 31 = .ok (.iconst 0, 1) := by decide +kernel
theorem dX8_areCold_32 : decode cX8_areCold 32 = .ok (.ireturn, 1) := by decide +kernel
set_option maxRecDepth 20000 in
theorem ggX8_countCold_X8_areCold : GoodIn wsX8_countCold wsX8_areCold := goodIn_r _ [6, 7, 8, 9, 5, 10, 11, 12, 13, 14, 15, 16, 17, 18, 19, 1, 20, 21, 22, 23, 24, 25, 26, 27, 28, 29, 30, 31, 32, 33] (by decide +kernel) (by decide +kernel)
set_option maxRecDepth 20000 in
theorem gX8_countCold_X8_areCold : GoodIn wsX8_countCold (wsV RX8 120 RX8 yX8_areCold wsX8_areCold) := goodIn_app (goodIn_of _ (by decide +kernel)) ggX8_countCold_X8_areCold
theorem dX8_countCold_0 : decode cX8_countCold 0 = .ok (.iconst 0, 1) := by decide +kernel
theorem dX8_countCold_1 : decode cX8_countCold 1 = .ok (.istore_n 1, 1) := by decide +kernel
theorem dX8_countCold_2 : decode cX8_countCold 2 = .ok (.iconst 0, 1) := by decide +kernel
theorem dX8_countCold_3 : decode cX8_countCold 3 = .ok (.istore_n 2, 1) := by decide +kernel
theorem dX8_countCold_4 : decode cX8_countCold 4 = .ok (.iload_n 2, 1) := by decide +kernel
theorem dX8_countCold_5 : decode cX8_countCold 5 = .ok (.aload_n 0, 1) := by decide +kernel
theorem dX8_countCold_6 : decode cX8_countCold 6 = .ok (.getfield 28, 3) := by decide +kernel
theorem dX8_countCold_9 : decode cX8_countCold 9 = .ok (.if_icmp .ge 44, 3) := by decide +kernel
theorem dX8_countCold_12 : decode cX8_countCold 12 = .ok (.iload_n 2, 1) := by decide +kernel
theorem dX8_countCold_13 : decode cX8_countCold 13 = .ok (.iconst 1, 1) := by decide +kernel
theorem dX8_countCold_14 : decode cX8_countCold 14 = .ok (.iadd, 1) := by decide +kernel
theorem dX8_countCold_15 : decode cX8_countCold 15 = .ok (.istore_n 3, 1) := by decide +kernel
theorem dX8_countCold_16 : decode cX8_countCold 16 = .ok (.iload_n 3, 1) := by decide +kernel
theorem dX8_countCold_17 : decode cX8_countCold 17 = .ok (.aload_n 0, 1) := by decide +kernel
theorem dX8_countCold_18 : decode cX8_countCold 18 = .ok (.getfield 28, 3) := by decide +kernel
theorem dX8_countCold_21 : decode cX8_countCold 21 = .ok (.if_icmp .ge 26, 3) := by decide +kernel
theorem dX8_countCold_24 : decode cX8_countCold 24 = .ok (.iload_n 1, 1) := by decide +kernel
theorem dX8_countCold_25 : decode cX8_countCold 25 = .ok (.aload_n 0, 1) := by decide +kernel
theorem dX8_countCold_26 : decode cX8_countCold 26 = .ok (.iload_n 2, 1) := by decide +kernel
theorem dX8_countCold_27 : decode cX8_countCold 27 = .ok (.iload_n 3, 1) := by decide +kernel
theorem dX8_countCold_28 : decode cX8_countCold 28 = .ok (.invokevirtual 120, 3) := by decide +kernel
theorem dX8_countCold_31 : decode cX8_countCold 31 = .ok (.ifCond .eq 7, 3) := by decide +kernel
theorem dX8_countCold_34 : decode cX8_countCold 34 = .ok (.iconst 1, 1) := by decide +kernel
theorem dX8_countCold_35 : decode cX8_countCold 35 = .ok (.goto 4, 3) := by decide +kernel
theorem dX8_countCold_38 : decode cX8_countCold 38 = .ok (.iconst 0, 1) := by decide +kernel
theorem dX8_countCold_39 : decode cX8_countCold 39 = .ok (.iadd, 1) := by decide +kernel
theorem dX8_countCold_40 : decode cX8_countCold 40 = .ok (.istore_n 1, 1) := by decide +kernel
theorem dX8_countCold_41 : decode cX8_countCold 41 = .ok (.iinc 3 1, 3) := by decide +kernel
theorem dX8_countCold_44 : decode cX8_countCold 44 = .ok (.goto (-28), 3) := by decide +kernel
theorem dX8_countCold_47 : decode cX8_countCold 47 = .ok (.iinc 2 1, 3) := by decide +kernel
theorem dX8_countCold_50 : decode cX8_countCold 50 = .ok (.goto (-46), 3) := by decide +kernel
theorem dX8_countCold_53 : decode cX8_countCold 53 = .ok (.iload_n 1, 1) := by decide +kernel
theorem dX8_countCold_54 : decode cX8_countCold 54 = .ok (.ireturn, 1) := by decide +kernel
set_option maxRecDepth 20000 in
theorem ggX8_firstCold_X8_areCold : GoodIn wsX8_firstCold wsX8_areCold := goodIn_r _ [6, 7, 8, 9, 5, 10, 11, 12, 13, 14, 15, 16, 17, 18, 19, 1, 20, 21, 22, 23, 24, 25, 26, 27, 28, 29, 30, 31, 32, 33] (by decide +kernel) (by decide +kernel)
set_option maxRecDepth 20000 in
theorem gX8_firstCold_X8_areCold : GoodIn wsX8_firstCold (wsV RX8 120 RX8 yX8_areCold wsX8_areCold) := goodIn_app (goodIn_of _ (by decide +kernel)) ggX8_firstCold_X8_areCold
theorem dX8_firstCold_0 : decode cX8_firstCold 0 = .ok (.iconst 0, 1) := by decide +kernel
theorem dX8_firstCold_1 : decode cX8_firstCold 1 = .ok (.istore_n 1, 1) := by decide +kernel
theorem dX8_firstCold_2 : decode cX8_firstCold 2 = .ok (.iload_n 1, 1) := by decide +kernel
theorem dX8_firstCold_3 : decode cX8_firstCold 3 = .ok (.aload_n 0, 1) := by decide +kernel
theorem dX8_firstCold_4 : decode cX8_firstCold 4 = .ok (.getfield 28, 3) := by decide +kernel
theorem dX8_firstCold_7 : decode cX8_firstCold 7 = .ok (.if_icmp .ge 43, 3) := by decide +kernel
theorem dX8_firstCold_10 : decode cX8_firstCold 10 = .ok (.iload_n 1, 1) := by decide +kernel
theorem dX8_firstCold_11 : decode cX8_firstCold 11 = .ok (.iconst 1, 1) := by decide +kernel
theorem dX8_firstCold_12 : decode cX8_firstCold 12 = .ok (.iadd, 1) := by decide +kernel
theorem dX8_firstCold_13 : decode cX8_firstCold 13 = .ok (.istore_n 2, 1) := by decide +kernel
theorem dX8_firstCold_14 : decode cX8_firstCold 14 = .ok (.iload_n 2, 1) := by decide +kernel
theorem dX8_firstCold_15 : decode cX8_firstCold 15 = .ok (.aload_n 0, 1) := by decide +kernel
theorem dX8_firstCold_16 : decode cX8_firstCold 16 = .ok (.getfield 28, 3) := by decide +kernel
theorem dX8_firstCold_19 : decode cX8_firstCold 19 = .ok (.if_icmp .ge 25, 3) := by decide +kernel
theorem dX8_firstCold_22 : decode cX8_firstCold 22 = .ok (.aload_n 0, 1) := by decide +kernel
theorem dX8_firstCold_23 : decode cX8_firstCold 23 = .ok (.iload_n 1, 1) := by decide +kernel
theorem dX8_firstCold_24 : decode cX8_firstCold 24 = .ok (.iload_n 2, 1) := by decide +kernel
theorem dX8_firstCold_25 : decode cX8_firstCold 25 = .ok (.invokevirtual 120, 3) := by decide +kernel
theorem dX8_firstCold_28 : decode cX8_firstCold 28 = .ok (.ifCond .eq 10, 3) := by decide +kernel
theorem dX8_firstCold_31 : decode cX8_firstCold 31 = .ok (.bipush 10, 2) := by decide +kernel
theorem dX8_firstCold_33 : decode cX8_firstCold 33 = .ok (.iload_n 1, 1) := by decide +kernel
theorem dX8_firstCold_34 : decode cX8_firstCold 34 = .ok (.imul, 1) := by decide +kernel
theorem dX8_firstCold_35 : decode cX8_firstCold 35 = .ok (.iload_n 2, 1) := by decide +kernel
theorem dX8_firstCold_36 : decode cX8_firstCold 36 = .ok (.iadd, 1) := by decide +kernel
theorem dX8_firstCold_37 : decode cX8_firstCold 37 = .ok (.ireturn, 1) := by decide +kernel
theorem dX8_firstCold_38 : decode cX8_firstCold 38 = .ok (.iinc 2 1, 3) := by decide +kernel
theorem dX8_firstCold_41 : decode cX8_firstCold 41 = .ok (.goto (-27), 3) := by decide +kernel
theorem dX8_firstCold_44 : decode cX8_firstCold 44 = .ok (.iinc 1 1, 3) := by decide +kernel
theorem dX8_firstCold_47 : decode cX8_firstCold 47 = .ok (.goto (-45), 3) := by decide +kernel
theorem dX8_firstCold_50 : decode cX8_firstCold 50 = .ok (.bipush (-9), 2) := by decide +kernel
theorem dX8_firstCold_52 : decode cX8_firstCold 52 = .ok (.ireturn, 1) := by decide +kernel
set_option maxRecDepth 20000 in
theorem ggX8_leastRemembered_X8_areTwoHere : GoodIn wsX8_leastRemembered wsX8_areTwoHere := goodIn_r _ [6, 7, 8, 9, 5, 10, 11, 12, 13, 14, 15, 1, 21, 22, 23, 24, 25, 26, 27, 28, 29] (by decide +kernel) (by decide +kernel)
set_option maxRecDepth 20000 in
theorem gX8_leastRemembered_X8_areTwoHere : GoodIn wsX8_leastRemembered (wsV RX8 73 RX8 yX8_areTwoHere wsX8_areTwoHere) := goodIn_app (goodIn_of _ (by decide +kernel)) ggX8_leastRemembered_X8_areTwoHere
set_option maxRecDepth 20000 in
theorem ggX8_leastRemembered_X8_memoryOf : GoodIn wsX8_leastRemembered wsX8_memoryOf := goodIn_r _ [19, 20, 21, 22, 23, 24, 25, 26, 27, 28, 29] (by decide +kernel) (by decide +kernel)
set_option maxRecDepth 20000 in
theorem gX8_leastRemembered_X8_memoryOf : GoodIn wsX8_leastRemembered (wsV RX8 117 RX8 yX8_memoryOf wsX8_memoryOf) := goodIn_app (goodIn_of _ (by decide +kernel)) ggX8_leastRemembered_X8_memoryOf
theorem dX8_leastRemembered_0 : decode cX8_leastRemembered 0 = .ok (.bipush (-9), 2) := by decide +kernel
theorem dX8_leastRemembered_2 : decode cX8_leastRemembered 2 = .ok (.istore_n 2, 1) := by decide +kernel
theorem dX8_leastRemembered_3 : decode cX8_leastRemembered 3 = .ok (.iconst 0, 1) := by decide +kernel
theorem dX8_leastRemembered_4 : decode cX8_leastRemembered 4 = .ok (.istore_n 3, 1) := by decide +kernel
theorem dX8_leastRemembered_5 : decode cX8_leastRemembered 5 = .ok (.iload_n 3, 1) := by decide +kernel
theorem dX8_leastRemembered_6 : decode cX8_leastRemembered 6 = .ok (.aload_n 0, 1) := by decide +kernel
theorem dX8_leastRemembered_7 : decode cX8_leastRemembered 7 = .ok (.getfield 28, 3) := by decide +kernel
theorem dX8_leastRemembered_10 : decode cX8_leastRemembered 10 = .ok (.if_icmp .ge 41, 3) := by decide +kernel
theorem dX8_leastRemembered_13 : decode cX8_leastRemembered 13 = .ok (.aload_n 0, 1) := by decide +kernel
theorem dX8_leastRemembered_14 : decode cX8_leastRemembered 14 = .ok (.iload_n 1, 1) := by decide +kernel
theorem dX8_leastRemembered_15 : decode cX8_leastRemembered 15 = .ok (.iload_n 3, 1) := by decide +kernel
theorem dX8_leastRemembered_16 : decode cX8_leastRemembered 16 = .ok (.invokevirtual 73, 3) := by decide +kernel
theorem dX8_leastRemembered_19 : decode cX8_leastRemembered 19 = .ok (.ifCond .eq 26, 3) := by decide +kernel
theorem dX8_leastRemembered_22 : decode cX8_leastRemembered 22 = .ok (.iload_n 2, 1) := by decide +kernel
theorem dX8_leastRemembered_23 : decode cX8_leastRemembered 23 = .ok (.bipush (-9), 2) := by decide +kernel
theorem dX8_leastRemembered_25 : decode cX8_leastRemembered 25 = .ok (.if_icmp .eq 18, 3) := by decide +kernel
theorem dX8_leastRemembered_28 : decode cX8_leastRemembered 28 = .ok (.aload_n 0, 1) := by decide +kernel
theorem dX8_leastRemembered_29 : decode cX8_leastRemembered 29 = .ok (.iload_n 1, 1) := by decide +kernel
theorem dX8_leastRemembered_30 : decode cX8_leastRemembered 30 = .ok (.iload_n 3, 1) := by decide +kernel
theorem dX8_leastRemembered_31 : decode cX8_leastRemembered 31 = .ok (.invokevirtual 117, 3) := by decide +kernel
theorem dX8_leastRemembered_34 : decode cX8_leastRemembered 34 = .ok (.aload_n 0, 1) := by decide +kernel
theorem dX8_leastRemembered_35 : decode cX8_leastRemembered 35 = .ok (.iload_n 1, 1) := by decide +kernel
theorem dX8_leastRemembered_36 : decode cX8_leastRemembered 36 = .ok (.iload_n 2, 1) := by decide +kernel
theorem dX8_leastRemembered_37 : decode cX8_leastRemembered 37 = .ok (.invokevirtual 117, 3) := by decide +kernel
theorem dX8_leastRemembered_40 : decode cX8_leastRemembered 40 = .ok (.if_icmp .ge 5, 3) := by decide +kernel
theorem dX8_leastRemembered_43 : decode cX8_leastRemembered 43 = .ok (.iload_n 3, 1) := by decide +kernel
theorem dX8_leastRemembered_44 : decode cX8_leastRemembered 44 = .ok (.istore_n 2, 1) := by decide +kernel
theorem dX8_leastRemembered_45 : decode cX8_leastRemembered 45 = .ok (.iinc 3 1, 3) := by decide +kernel
theorem dX8_leastRemembered_48 : decode cX8_leastRemembered 48 = .ok (.goto (-43), 3) := by decide +kernel
theorem dX8_leastRemembered_51 : decode cX8_leastRemembered 51 = .ok (.iload_n 2, 1) := by decide +kernel
theorem dX8_leastRemembered_52 : decode cX8_leastRemembered 52 = .ok (.ireturn, 1) := by decide +kernel
set_option maxRecDepth 20000 in
theorem ggX8_memoryOverTheHill_X8_memoryOf : GoodIn wsX8_memoryOverTheHill wsX8_memoryOf := goodIn_r _ [7, 8, 9, 10, 11, 12, 13, 14, 15, 16, 17] (by decide +kernel) (by decide +kernel)
set_option maxRecDepth 20000 in
theorem gX8_memoryOverTheHill_X8_memoryOf : GoodIn wsX8_memoryOverTheHill (wsV RX8 117 RX8 yX8_memoryOf wsX8_memoryOf) := goodIn_app (goodIn_of _ (by decide +kernel)) ggX8_memoryOverTheHill_X8_memoryOf
theorem dX8_memoryOverTheHill_0 : decode cX8_memoryOverTheHill 0 = .ok (.iconst 0, 1) := by decide +kernel
theorem dX8_memoryOverTheHill_1 : decode cX8_memoryOverTheHill 1 = .ok (.istore_n 1, 1) := by decide +kernel
theorem dX8_memoryOverTheHill_2 : decode cX8_memoryOverTheHill 2 = .ok (.iconst 0, 1) := by decide +kernel
theorem dX8_memoryOverTheHill_3 : decode cX8_memoryOverTheHill 3 = .ok (.istore_n 2, 1) := by decide +kernel
theorem dX8_memoryOverTheHill_4 : decode cX8_memoryOverTheHill 4 = .ok (.iload_n 2, 1) := by decide +kernel
theorem dX8_memoryOverTheHill_5 : decode cX8_memoryOverTheHill 5 = .ok (.aload_n 0, 1) := by decide +kernel
theorem dX8_memoryOverTheHill_6 : decode cX8_memoryOverTheHill 6 = .ok (.getfield 28, 3) := by decide +kernel
theorem dX8_memoryOverTheHill_9 : decode cX8_memoryOverTheHill 9 = .ok (.if_icmp .ge 61, 3) := by decide +kernel
theorem dX8_memoryOverTheHill_12 : decode cX8_memoryOverTheHill 12 = .ok (.iconst 0, 1) := by decide +kernel
theorem dX8_memoryOverTheHill_13 : decode cX8_memoryOverTheHill 13 = .ok (.istore_n 3, 1) := by decide +kernel
theorem dX8_memoryOverTheHill_14 : decode cX8_memoryOverTheHill 14 = .ok (.iload_n 3, 1) := by decide +kernel
theorem dX8_memoryOverTheHill_15 : decode cX8_memoryOverTheHill 15 = .ok (.aload_n 0, 1) := by decide +kernel
theorem dX8_memoryOverTheHill_16 : decode cX8_memoryOverTheHill 16 = .ok (.getfield 28, 3) := by decide +kernel
theorem dX8_memoryOverTheHill_19 : decode cX8_memoryOverTheHill 19 = .ok (.if_icmp .ge 45, 3) := by decide +kernel
theorem dX8_memoryOverTheHill_22 : decode cX8_memoryOverTheHill 22 = .ok (.iload_n 1, 1) := by decide +kernel
theorem dX8_memoryOverTheHill_23 : decode cX8_memoryOverTheHill 23 = .ok (.iload_n 2, 1) := by decide +kernel
theorem dX8_memoryOverTheHill_24 : decode cX8_memoryOverTheHill 24 = .ok (.iload_n 3, 1) := by decide +kernel
theorem dX8_memoryOverTheHill_25 : decode cX8_memoryOverTheHill 25 = .ok (.if_icmp .eq 30, 3) := by decide +kernel
theorem dX8_memoryOverTheHill_28 : decode cX8_memoryOverTheHill 28 = .ok (.aload_n 0, 1) := by decide +kernel
theorem dX8_memoryOverTheHill_29 : decode cX8_memoryOverTheHill 29 = .ok (.getfield 21, 3) := by decide +kernel
theorem dX8_memoryOverTheHill_32 : decode cX8_memoryOverTheHill 32 = .ok (.iload_n 2, 1) := by decide +kernel
theorem dX8_memoryOverTheHill_33 : decode cX8_memoryOverTheHill 33 = .ok (.baload, 1) := by decide +kernel
theorem dX8_memoryOverTheHill_34 : decode cX8_memoryOverTheHill 34 = .ok (.ifCond .ne 21, 3) := by decide +kernel
theorem dX8_memoryOverTheHill_37 : decode cX8_memoryOverTheHill 37 = .ok (.aload_n 0, 1) := by decide +kernel
theorem dX8_memoryOverTheHill_38 : decode cX8_memoryOverTheHill 38 = .ok (.getfield 21, 3) := by decide +kernel
theorem dX8_memoryOverTheHill_41 : decode cX8_memoryOverTheHill 41 = .ok (.iload_n 3, 1) := by decide +kernel
theorem dX8_memoryOverTheHill_42 : decode cX8_memoryOverTheHill 42 = .ok (.baload, 1) := by decide +kernel
theorem dX8_memoryOverTheHill_43 : decode cX8_memoryOverTheHill 43 = .ok (.ifCond .ne 12, 3) := by decide +kernel
theorem dX8_memoryOverTheHill_46 : decode cX8_memoryOverTheHill 46 = .ok (.aload_n 0, 1) := by decide +kernel
theorem dX8_memoryOverTheHill_47 : decode cX8_memoryOverTheHill 47 = .ok (.iload_n 2, 1) := by decide +kernel
theorem dX8_memoryOverTheHill_48 : decode cX8_memoryOverTheHill 48 = .ok (.iload_n 3, 1) := by decide +kernel
theorem dX8_memoryOverTheHill_49 : decode cX8_memoryOverTheHill 49 = .ok (.invokevirtual 117, 3) := by decide +kernel
theorem dX8_memoryOverTheHill_52 : decode cX8_memoryOverTheHill 52 = .ok (.goto 4, 3) := by decide +kernel
theorem dX8_memoryOverTheHill_55 : decode cX8_memoryOverTheHill 55 = .ok (.iconst 0, 1) := by decide +kernel
theorem dX8_memoryOverTheHill_56 : decode cX8_memoryOverTheHill 56 = .ok (.iadd, 1) := by decide +kernel
theorem dX8_memoryOverTheHill_57 : decode cX8_memoryOverTheHill 57 = .ok (.istore_n 1, 1) := by decide +kernel
theorem dX8_memoryOverTheHill_58 : decode cX8_memoryOverTheHill 58 = .ok (.iinc 3 1, 3) := by decide +kernel
theorem dX8_memoryOverTheHill_61 : decode cX8_memoryOverTheHill 61 = .ok (.goto (-47), 3) := by decide +kernel
theorem dX8_memoryOverTheHill_64 : decode cX8_memoryOverTheHill 64 = .ok (.iinc 2 1, 3) := by decide +kernel
theorem dX8_memoryOverTheHill_67 : decode cX8_memoryOverTheHill 67 = .ok (.goto (-63), 3) := by decide +kernel
theorem dX8_memoryOverTheHill_70 : decode cX8_memoryOverTheHill 70 = .ok (.iload_n 1, 1) := by decide +kernel
theorem dX8_memoryOverTheHill_71 : decode cX8_memoryOverTheHill 71 = .ok (.ireturn, 1) := by decide +kernel
set_option maxRecDepth 20000 in
theorem ggX8_passUntilForgotten_X8_passWeek : GoodIn wsX8_passUntilForgotten wsX8_passWeek := goodIn_r _ [6, 7, 8, 1, 9, 10, 11, 12, 13, 14, 15, 16, 17, 18, 19, 20, 21, 22, 23, 24, 25, 26, 27, 28, 29, 30, 31, 32, 33, 34, 35, 36, 37, 38, 39, 40, 41, 42, 43, 44, 45, 46, 47, 48, 49, 50, 51, 5, 52, 53, 54, 55, 56, 57, 58, 59, 60, 61, 62, 63, 64, 65, 66, 67, 68, 69, 70, 71, 72, 73, 74, 75, 76, 77, 78, 79, 80, 81, 82, 83, 84, 85, 86, 87, 88, 89, 90, 91, 92, 93, 94, 95, 96, 97, 98, 99, 100, 101, 102, 103, 104, 105, 106, 107] (by decide +kernel) (by decide +kernel)
set_option maxRecDepth 20000 in
theorem gX8_passUntilForgotten_X8_passWeek : GoodIn wsX8_passUntilForgotten (wsV RX8 87 RX8 yX8_passWeek wsX8_passWeek) := goodIn_app (goodIn_of _ (by decide +kernel)) ggX8_passUntilForgotten_X8_passWeek
theorem dX8_passUntilForgotten_0 : decode cX8_passUntilForgotten 0 = .ok (.iconst 0, 1) := by decide +kernel
theorem dX8_passUntilForgotten_1 : decode cX8_passUntilForgotten 1 = .ok (.istore_n 2, 1) := by decide +kernel
theorem dX8_passUntilForgotten_2 : decode cX8_passUntilForgotten 2 = .ok (.iload_n 2, 1) := by decide +kernel
theorem dX8_passUntilForgotten_3 : decode cX8_passUntilForgotten 3 = .ok (.bipush 99, 2) := by decide +kernel
theorem dX8_passUntilForgotten_5 : decode cX8_passUntilForgotten 5 = .ok (.if_icmp .gt 24, 3) := by decide +kernel
theorem dX8_passUntilForgotten_8 : decode cX8_passUntilForgotten 8 = .ok (.aload_n 0, 1) := by decide +kernel
theorem dX8_passUntilForgotten_9 : decode cX8_passUntilForgotten 9 = .ok (.getfield 21, 3) := by decide +kernel
theorem dX8_passUntilForgotten_12 : decode cX8_passUntilForgotten 12 = .ok (.iload_n 1, 1) := by decide +kernel
theorem dX8_passUntilForgotten_13 : decode cX8_passUntilForgotten 13 = .ok (.baload, 1) := by decide +kernel
theorem dX8_passUntilForgotten_14 : decode cX8_passUntilForgotten 14 = .ok (.ifCond .ne 5, 3) := by decide +kernel
theorem dX8_passUntilForgotten_17 : decode cX8_passUntilForgotten 17 = .ok (.iload_n 2, 1) := by decide +kernel
theorem dX8_passUntilForgotten_18 : decode cX8_passUntilForgotten 18 = .ok (.ireturn, 1) := by decide +kernel
theorem dX8_passUntilForgotten_19 : decode cX8_passUntilForgotten 19 = .ok (.aload_n 0, 1) := by decide +kernel
theorem dX8_passUntilForgotten_20 : decode cX8_passUntilForgotten 20 = .ok (.invokevirtual 87, 3) := by decide +kernel
theorem dX8_passUntilForgotten_23 : decode cX8_passUntilForgotten 23 = .ok (.iinc 2 1, 3) := by decide +kernel
theorem dX8_passUntilForgotten_26 : decode cX8_passUntilForgotten 26 = .ok (.goto (-24), 3) := by decide +kernel
theorem dX8_passUntilForgotten_29 : decode cX8_passUntilForgotten 29 = .ok (.bipush 100, 2) := by decide +kernel
theorem dX8_passUntilForgotten_31 : decode cX8_passUntilForgotten 31 = .ok (.ireturn, 1) := by decide +kernel
set_option maxRecDepth 20000 in
theorem ggX8_keeps_X8_passWeek : GoodIn wsX8_keeps wsX8_passWeek := goodIn_r _ [6, 7, 8, 1, 9, 10, 11, 12, 13, 14, 15, 16, 17, 18, 19, 20, 21, 22, 23, 24, 25, 26, 27, 28, 29, 30, 31, 32, 33, 34, 35, 36, 37, 38, 39, 40, 41, 42, 43, 44, 45, 46, 47, 48, 49, 50, 51, 5, 52, 53, 54, 55, 56, 57, 58, 59, 60, 61, 62, 63, 64, 65, 66, 67, 68, 69, 70, 71, 72, 73, 74, 75, 76, 77, 78, 79, 80, 81, 82, 83, 84, 85, 86, 87, 88, 89, 90, 91, 92, 93, 94, 95, 96, 97, 98, 99, 100, 101, 102, 103, 104, 105, 106, 107] (by decide +kernel) (by decide +kernel)
set_option maxRecDepth 20000 in
theorem gX8_keeps_X8_passWeek : GoodIn wsX8_keeps (wsV RX8 87 RX8 yX8_passWeek wsX8_passWeek) := goodIn_app (goodIn_of _ (by decide +kernel)) ggX8_keeps_X8_passWeek
theorem dX8_keeps_0 : decode cX8_keeps 0 = .ok (.iconst 0, 1) := by decide +kernel
theorem dX8_keeps_1 : decode cX8_keeps 1 = .ok (.istore_n 3, 1) := by decide +kernel
theorem dX8_keeps_2 : decode cX8_keeps 2 = .ok (.iload_n 3, 1) := by decide +kernel
theorem dX8_keeps_3 : decode cX8_keeps 3 = .ok (.iload_n 2, 1) := by decide +kernel
theorem dX8_keeps_4 : decode cX8_keeps 4 = .ok (.if_icmp .ge 22, 3) := by decide +kernel
theorem dX8_keeps_7 : decode cX8_keeps 7 = .ok (.aload_n 0, 1) := by decide +kernel
theorem dX8_keeps_8 : decode cX8_keeps 8 = .ok (.getfield 21, 3) := by decide +kernel
theorem dX8_keeps_11 : decode cX8_keeps 11 = .ok (.iload_n 1, 1) := by decide +kernel
theorem dX8_keeps_12 : decode cX8_keeps 12 = .ok (.baload, 1) := by decide +kernel
theorem dX8_keeps_13 : decode cX8_keeps 13 = .ok (.ifCond .eq 13, 3) := by decide +kernel
theorem dX8_keeps_16 : decode cX8_keeps 16 = .ok (.aload_n 0, 1) := by decide +kernel
theorem dX8_keeps_17 : decode cX8_keeps 17 = .ok (.invokevirtual 87, 3) := by decide +kernel
theorem dX8_keeps_20 : decode cX8_keeps 20 = .ok (.iinc 3 1, 3) := by decide +kernel
theorem dX8_keeps_23 : decode cX8_keeps 23 = .ok (.goto (-21), 3) := by decide +kernel
theorem dX8_keeps_26 : decode cX8_keeps 26 = .ok (.aload_n 0, 1) := by decide +kernel
theorem dX8_keeps_27 : decode cX8_keeps 27 = .ok (.getfield 21, 3) := by decide +kernel
theorem dX8_keeps_30 : decode cX8_keeps 30 = .ok (.iload_n 1, 1) := by decide +kernel
theorem dX8_keeps_31 : decode cX8_keeps 31 = .ok (.baload, 1) := by decide +kernel
theorem dX8_keeps_32 : decode cX8_keeps 32 = .ok (.ireturn, 1) := by decide +kernel
set_option maxRecDepth 20000 in
theorem ggX9_init_X2_init : GoodIn wsX9_init wsX2_init := goodIn_r _ [4, 5, 6, 7, 8, 9, 10, 11] (by decide +kernel) (by decide +kernel)
set_option maxRecDepth 20000 in
theorem gX9_init_X2_init : GoodIn wsX9_init (wsX2_init) := ggX9_init_X2_init
theorem dX9_init_0 : decode cX9_init 0 = .ok (.aload_n 0, 1) := by decide +kernel
theorem dX9_init_1 : decode cX9_init 1 = .ok (.invokespecial 1, 3) := by decide +kernel
theorem dX9_init_4 : decode cX9_init 4 = .ok (.return_, 1) := by decide +kernel
set_option maxRecDepth 20000 in
theorem ggX9_change_X2_change : GoodIn wsX9_change wsX2_change := goodIn_r _ [6, 7, 8, 9, 10, 11, 12] (by decide +kernel) (by decide +kernel)
set_option maxRecDepth 20000 in
theorem gX9_change_X2_change_s7 : GoodIn wsX9_change (va_wsSU RX9 7 yX2_change wsX2_change) := goodIn_app (goodIn_of _ (by decide +kernel)) ggX9_change_X2_change
theorem dX9_change_0 : decode cX9_change 0 = .ok (.aload_n 0, 1) := by decide +kernel
theorem dX9_change_1 : decode cX9_change 1 = .ok (.iload_n 1, 1) := by decide +kernel
theorem dX9_change_2 : decode cX9_change 2 = .ok (.iload_n 2, 1) := by decide +kernel
theorem dX9_change_3 : decode cX9_change 3 = .ok (.iload_n 3, 1) := by decide +kernel
theorem dX9_change_4 : decode cX9_change 4 = .ok (.invokespecial 7, 3) := by decide +kernel
theorem dX9_change_7 : decode cX9_change 7 = .ok (.iload_n 1, 1) := by decide +kernel
theorem dX9_change_8 : decode cX9_change 8 = .ok (.iconst 2, 1) := by decide +kernel
theorem dX9_change_9 : decode cX9_change 9 = .ok (.irem, 1) := by decide +kernel
theorem dX9_change_10 : decode cX9_change 10 = .ok (.iconst 1, 1) := by decide +kernel
theorem dX9_change_11 : decode cX9_change 11 = .ok (.if_icmp .ne 7, 3) := by decide +kernel
theorem dX9_change_14 : decode cX9_change 14 = .ok (.iconst 2, 1) := by decide +kernel
theorem dX9_change_15 : decode cX9_change 15 = .ok (.goto 4, 3) := by decide +kernel
theorem dX9_change_18 : decode cX9_change 18 = .ok (.iconst 0, 1) := by decide +kernel
theorem dX9_change_19 : decode cX9_change 19 = .ok (.iadd, 1) := by decide +kernel
theorem dX9_change_20 : decode cX9_change 20 = .ok (.ireturn, 1) := by decide +kernel
theorem dX9_isNamed_0 : decode cX9_isNamed 0 = .ok (.iload_n 1, 1) := by decide +kernel
theorem dX9_isNamed_1 : decode cX9_isNamed 1 = .ok (.iconst 5, 1) := by decide +kernel
theorem dX9_isNamed_2 : decode cX9_isNamed 2 = .ok (.if_icmp .ge 7, 3) := by decide +kernel
theorem dX9_isNamed_5 : decode cX9_isNamed 5 = .ok (.iconst 1, 1) := by decide +kernel
theorem dX9_isNamed_6 : decode cX9_isNamed 6 = .ok (.goto 4, 3) := by decide +kernel
theorem dX9_isNamed_9 : decode cX9_isNamed 9 = .ok (.iconst 0, 1) := by decide +kernel
theorem dX9_isNamed_10 : decode cX9_isNamed 10 = .ok (.ireturn, 1) := by decide +kernel
set_option maxRecDepth 20000 in
theorem ggX10_init_X4_init : GoodIn wsX10_init wsX4_init := goodIn_r _ [45, 46, 2, 3] (by decide +kernel) (by decide +kernel)
set_option maxRecDepth 20000 in
theorem gX10_init_X4_init : GoodIn wsX10_init (wsX4_init) := ggX10_init_X4_init
set_option maxRecDepth 20000 in
theorem ggX10_init_X0_init : GoodIn wsX10_init wsX0_init := goodIn_r _ [49, 50, 44, 6, 45, 46, 2, 3] (by decide +kernel) (by decide +kernel)
set_option maxRecDepth 20000 in
theorem gX10_init_X0_init : GoodIn wsX10_init (wsX0_init) := ggX10_init_X0_init
set_option maxRecDepth 20000 in
theorem ggX10_init_X2_init : GoodIn wsX10_init wsX2_init := goodIn_r _ [53, 54, 44, 6, 45, 46, 2, 3] (by decide +kernel) (by decide +kernel)
set_option maxRecDepth 20000 in
theorem gX10_init_X2_init : GoodIn wsX10_init (wsX2_init) := ggX10_init_X2_init
set_option maxRecDepth 20000 in
theorem ggX10_init_X5_init : GoodIn wsX10_init wsX5_init := goodIn_r _ [57, 58, 48, 9, 49, 50, 44, 6, 45, 46, 2, 3] (by decide +kernel) (by decide +kernel)
set_option maxRecDepth 20000 in
theorem gX10_init_X5_init : GoodIn wsX10_init (wsX5_init) := ggX10_init_X5_init
set_option maxRecDepth 20000 in
theorem ggX10_init_X1_init : GoodIn wsX10_init wsX1_init := goodIn_r _ [61, 62, 44, 6, 45, 46, 2, 3] (by decide +kernel) (by decide +kernel)
set_option maxRecDepth 20000 in
theorem gX10_init_X1_init : GoodIn wsX10_init (wsX1_init) := ggX10_init_X1_init
set_option maxRecDepth 20000 in
theorem ggX10_init_X9_init : GoodIn wsX10_init wsX9_init := goodIn_r _ [65, 66, 52, 12, 53, 54, 44, 6, 45, 46, 2, 3] (by decide +kernel) (by decide +kernel)
set_option maxRecDepth 20000 in
theorem gX10_init_X9_init : GoodIn wsX10_init (wsX9_init) := ggX10_init_X9_init
set_option maxRecDepth 20000 in
theorem ggX10_init_X8_init : GoodIn wsX10_init wsX8_init := goodIn_r _ [69, 70, 2, 3, 40, 71, 72, 73, 74, 75, 76, 77, 78, 79, 80, 106, 107, 108, 109, 110, 111, 112, 113, 114] (by decide +kernel) (by decide +kernel)
set_option maxRecDepth 20000 in
theorem gX10_init_X8_init : GoodIn wsX10_init (wsX8_init) := ggX10_init_X8_init
set_option maxRecDepth 20000 in
theorem ggX10_init_X3_init : GoodIn wsX10_init wsX3_init := goodIn_r _ [83, 84, 2, 3, 40, 85, 86, 87, 88, 89, 90, 23, 24, 91, 92, 93, 68, 69, 70, 71, 72, 73, 74, 75, 76, 77, 78, 79, 80, 123, 124, 125, 126, 127, 128, 129, 106, 107, 108, 109, 110, 111, 112, 113, 114] (by decide +kernel) (by decide +kernel)
set_option maxRecDepth 20000 in
theorem gX10_init_X3_init : GoodIn wsX10_init (wsX3_init) := ggX10_init_X3_init
set_option maxRecDepth 20000 in
theorem ggX10_init_X7_init : GoodIn wsX10_init wsX7_init := goodIn_r _ [96, 97, 2, 3, 40, 98, 99, 130, 131] (by decide +kernel) (by decide +kernel)
set_option maxRecDepth 20000 in
theorem gX10_init_X7_init : GoodIn wsX10_init (wsX7_init) := ggX10_init_X7_init
set_option maxRecDepth 20000 in
theorem ggX10_init_X6_init : GoodIn wsX10_init wsX6_init := goodIn_r _ [102, 103, 2, 3, 40, 104, 105, 132, 133] (by decide +kernel) (by decide +kernel)
set_option maxRecDepth 20000 in
theorem gX10_init_X6_init : GoodIn wsX10_init (wsX6_init) := ggX10_init_X6_init
theorem dX10_init_0 : decode cX10_init 0 = .ok (.aload_n 0, 1) := by decide +kernel
theorem dX10_init_1 : decode cX10_init 1 = .ok (.invokespecial 3, 3) := by decide +kernel
theorem dX10_init_4 : decode cX10_init 4 = .ok (.bipush 6, 2) := by decide +kernel
theorem dX10_init_6 : decode cX10_init 6 = .ok (.anewarray 9, 3) := by decide +kernel
theorem dX10_init_9 : decode cX10_init 9 = .ok (.dup, 1) := by decide +kernel
theorem dX10_init_10 : decode cX10_init 10 = .ok (.iconst 0, 1) := by decide +kernel
theorem dX10_init_11 : decode cX10_init 11 = .ok (.new 9, 3) := by decide +kernel
theorem dX10_init_14 : decode cX10_init 14 = .ok (.dup, 1) := by decide +kernel
theorem dX10_init_15 : decode cX10_init 15 = .ok (.invokespecial 11, 3) := by decide +kernel
theorem dX10_init_18 : decode cX10_init 18 = .ok (.aastore, 1) := by decide +kernel
theorem dX10_init_19 : decode cX10_init 19 = .ok (.dup, 1) := by decide +kernel
theorem dX10_init_20 : decode cX10_init 20 = .ok (.iconst 1, 1) := by decide +kernel
theorem dX10_init_21 : decode cX10_init 21 = .ok (.new 12, 3) := by decide +kernel
theorem dX10_init_24 : decode cX10_init 24 = .ok (.dup, 1) := by decide +kernel
theorem dX10_init_25 : decode cX10_init 25 = .ok (.invokespecial 14, 3) := by decide +kernel
theorem dX10_init_28 : decode cX10_init 28 = .ok (.aastore, 1) := by decide +kernel
theorem dX10_init_29 : decode cX10_init 29 = .ok (.dup, 1) := by decide +kernel
theorem dX10_init_30 : decode cX10_init 30 = .ok (.iconst 2, 1) := by decide +kernel
theorem dX10_init_31 : decode cX10_init 31 = .ok (.new 15, 3) := by decide +kernel
theorem dX10_init_34 : decode cX10_init 34 = .ok (.dup, 1) := by decide +kernel
theorem dX10_init_35 : decode cX10_init 35 = .ok (.invokespecial 17, 3) := by decide +kernel
theorem dX10_init_38 : decode cX10_init 38 = .ok (.aastore, 1) := by decide +kernel
theorem dX10_init_39 : decode cX10_init 39 = .ok (.dup, 1) := by decide +kernel
theorem dX10_init_40 : decode cX10_init 40 = .ok (.iconst 3, 1) := by decide +kernel
theorem dX10_init_41 : decode cX10_init 41 = .ok (.new 18, 3) := by decide +kernel
theorem dX10_init_44 : decode cX10_init 44 = .ok (.dup, 1) := by decide +kernel
theorem dX10_init_45 : decode cX10_init 45 = .ok (.invokespecial 20, 3) := by decide +kernel
theorem dX10_init_48 : decode cX10_init 48 = .ok (.aastore, 1) := by decide +kernel
theorem dX10_init_49 : decode cX10_init 49 = .ok (.dup, 1) := by decide +kernel
theorem dX10_init_50 : decode cX10_init 50 = .ok (.iconst 4, 1) := by decide +kernel
theorem dX10_init_51 : decode cX10_init 51 = .ok (.new 21, 3) := by decide +kernel
theorem dX10_init_54 : decode cX10_init 54 = .ok (.dup, 1) := by decide +kernel
theorem dX10_init_55 : decode cX10_init 55 = .ok (.invokespecial 23, 3) := by decide +kernel
theorem dX10_init_58 : decode cX10_init 58 = .ok (.aastore, 1) := by decide +kernel
theorem dX10_init_59 : decode cX10_init 59 = .ok (.dup, 1) := by decide +kernel
theorem dX10_init_60 : decode cX10_init 60 = .ok (.iconst 5, 1) := by decide +kernel
theorem dX10_init_61 : decode cX10_init 61 = .ok (.new 24, 3) := by decide +kernel
theorem dX10_init_64 : decode cX10_init 64 = .ok (.dup, 1) := by decide +kernel
theorem dX10_init_65 : decode cX10_init 65 = .ok (.invokespecial 26, 3) := by decide +kernel
theorem dX10_init_68 : decode cX10_init 68 = .ok (.aastore, 1) := by decide +kernel
theorem dX10_init_69 : decode cX10_init 69 = .ok (.astore_n 1, 1) := by decide +kernel
theorem dX10_init_70 : decode cX10_init 70 = .ok (.aload_n 0, 1) := by decide +kernel
theorem dX10_init_71 : decode cX10_init 71 = .ok (.new 27, 3) := by decide +kernel
theorem dX10_init_74 : decode cX10_init 74 = .ok (.dup, 1) := by decide +kernel
theorem dX10_init_75 : decode cX10_init 75 = .ok (.aload_n 1, 1) := by decide +kernel
theorem dX10_init_76 : decode cX10_init 76 = .ok (.invokespecial 29, 3) := by decide +kernel
theorem dX10_init_79 : decode cX10_init 79 = .ok (.putfield 32, 3) := by decide +kernel
theorem dX10_init_82 : decode cX10_init 82 = .ok (.aload_n 0, 1) := by decide +kernel
theorem dX10_init_83 : decode cX10_init 83 = .ok (.new 27, 3) := by decide +kernel
theorem dX10_init_86 : decode cX10_init 86 = .ok (.dup, 1) := by decide +kernel
theorem dX10_init_87 : decode cX10_init 87 = .ok (.aload_n 1, 1) := by decide +kernel
theorem dX10_init_88 : decode cX10_init 88 = .ok (.invokespecial 29, 3) := by decide +kernel
theorem dX10_init_91 : decode cX10_init 91 = .ok (.putfield 36, 3) := by decide +kernel
theorem dX10_init_94 : decode cX10_init 94 = .ok (.aload_n 0, 1) := by decide +kernel
theorem dX10_init_95 : decode cX10_init 95 = .ok (.new 27, 3) := by decide +kernel
theorem dX10_init_98 : decode cX10_init 98 = .ok (.dup, 1) := by decide +kernel
theorem dX10_init_99 : decode cX10_init 99 = .ok (.aload_n 1, 1) := by decide +kernel
theorem dX10_init_100 : decode cX10_init 100 = .ok (.invokespecial 29, 3) := by decide +kernel
theorem dX10_init_103 : decode cX10_init 103 = .ok (.putfield 39, 3) := by decide +kernel
theorem dX10_init_106 : decode cX10_init 106 = .ok (.aload_n 0, 1) := by decide +kernel
theorem dX10_init_107 : decode cX10_init 107 = .ok (.new 42, 3) := by decide +kernel
theorem dX10_init_110 : decode cX10_init 110 = .ok (.dup, 1) := by decide +kernel
theorem dX10_init_111 : decode cX10_init 111 = .ok (.aload_n 0, 1) := by decide +kernel
theorem dX10_init_112 : decode cX10_init 112 = .ok (.getfield 32, 3) := by decide +kernel
theorem dX10_init_115 : decode cX10_init 115 = .ok (.aload_n 1, 1) := by decide +kernel
theorem dX10_init_116 : decode cX10_init 116 = .ok (.invokespecial 44, 3) := by decide +kernel
theorem dX10_init_119 : decode cX10_init 119 = .ok (.putfield 47, 3) := by decide +kernel
theorem dX10_init_122 : decode cX10_init 122 = .ok (.aload_n 0, 1) := by decide +kernel
theorem dX10_init_123 : decode cX10_init 123 = .ok (.new 51, 3) := by decide +kernel
theorem dX10_init_126 : decode cX10_init 126 = .ok (.dup, 1) := by decide +kernel
theorem dX10_init_127 : decode cX10_init 127 = .ok (.invokespecial 53, 3) := by decide +kernel
theorem dX10_init_130 : decode cX10_init 130 = .ok (.putfield 54, 3) := by decide +kernel
theorem dX10_init_133 : decode cX10_init 133 = .ok (.aload_n 0, 1) := by decide +kernel
theorem dX10_init_134 : decode cX10_init 134 = .ok (.new 58, 3) := by decide +kernel
theorem dX10_init_137 : decode cX10_init 137 = .ok (.dup, 1) := by decide +kernel
theorem dX10_init_138 : decode cX10_init 138 = .ok (.invokespecial 60, 3) := by decide +kernel
theorem dX10_init_141 : decode cX10_init 141 = .ok (.putfield 61, 3) := by decide +kernel
theorem dX10_init_144 : decode cX10_init 144 = .ok (.aload_n 0, 1) := by decide +kernel
theorem dX10_init_145 : decode cX10_init 145 = .ok (.bipush 7, 2) := by decide +kernel
theorem dX10_init_147 : decode cX10_init 147 = .ok (.newarray .int, 2) := by decide +kernel
theorem dX10_init_149 : decode cX10_init 149 = .ok (.putfield 65, 3) := by decide +kernel
theorem dX10_init_152 : decode cX10_init 152 = .ok (.aload_n 0, 1) := by decide +kernel
theorem dX10_init_153 : decode cX10_init 153 = .ok (.iconst 0, 1) := by decide +kernel
theorem dX10_init_154 : decode cX10_init 154 = .ok (.putfield 69, 3) := by decide +kernel
theorem dX10_init_157 : decode cX10_init 157 = .ok (.return_, 1) := by decide +kernel
set_option maxRecDepth 20000 in
theorem ggX10_letter_X10_outside : GoodIn wsX10_letter wsX10_outside := goodIn_r _ [5] (by decide +kernel) (by decide +kernel)
set_option maxRecDepth 20000 in
theorem gX10_letter_X10_outside : GoodIn wsX10_letter (va_wsS RX10 73 yX10_outside wsX10_outside) := goodIn_app (goodIn_of _ (by decide +kernel)) ggX10_letter_X10_outside
set_option maxRecDepth 20000 in
theorem ggX10_letter_X7_isFull : GoodIn wsX10_letter wsX7_isFull := goodIn_r _ [10, 11, 37, 38] (by decide +kernel) (by decide +kernel)
set_option maxRecDepth 20000 in
theorem gX10_letter_X7_isFull : GoodIn wsX10_letter (wsV RX10 77 RX7 yX7_isFull wsX7_isFull) := goodIn_app (goodIn_of _ (by decide +kernel)) ggX10_letter_X7_isFull
set_option maxRecDepth 20000 in
theorem ggX10_letter_X10_refused_ : GoodIn wsX10_letter wsX10_refused_ := goodIn_r _ [15, 16, 17, 4, 18, 19, 20, 21, 22, 23, 29, 30, 31, 32, 33, 34, 35, 36] (by decide +kernel) (by decide +kernel)
set_option maxRecDepth 20000 in
theorem gX10_letter_X10_refused_ : GoodIn wsX10_letter (wsV RX10 81 RX10 yX10_refused_ wsX10_refused_) := goodIn_app (goodIn_of _ (by decide +kernel)) ggX10_letter_X10_refused_
set_option maxRecDepth 20000 in
theorem ggX10_letter_X7_add : GoodIn wsX10_letter wsX7_add := goodIn_r _ [27, 28, 11, 37, 38] (by decide +kernel) (by decide +kernel)
set_option maxRecDepth 20000 in
theorem gX10_letter_X7_add : GoodIn wsX10_letter (wsV RX10 85 RX7 yX7_add wsX7_add) := goodIn_app (goodIn_of _ (by decide +kernel)) ggX10_letter_X7_add
theorem dX10_letter_0 : decode cX10_letter 0 = .ok (.aload_n 0, 1) := by decide +kernel
theorem dX10_letter_1 : decode cX10_letter 1 = .ok (.iload_n 1, 1) := by decide +kernel
theorem dX10_letter_2 : decode cX10_letter 2 = .ok (.iconst 0, 1) := by decide +kernel
theorem dX10_letter_3 : decode cX10_letter 3 = .ok (.sipush 255, 3) := by decide +kernel
theorem dX10_letter_6 : decode cX10_letter 6 = .ok (.invokestatic 73, 3) := by decide +kernel
theorem dX10_letter_9 : decode cX10_letter 9 = .ok (.aload_n 0, 1) := by decide +kernel
theorem dX10_letter_10 : decode cX10_letter 10 = .ok (.getfield 54, 3) := by decide +kernel
theorem dX10_letter_13 : decode cX10_letter 13 = .ok (.invokevirtual 77, 3) := by decide +kernel
theorem dX10_letter_16 : decode cX10_letter 16 = .ok (.ifCond .eq 8, 3) := by decide +kernel
theorem dX10_letter_19 : decode cX10_letter 19 = .ok (.bipush (-6), 2) := by decide +kernel
theorem dX10_letter_21 : decode cX10_letter 21 = .ok (.goto 4, 3) := by decide +kernel
theorem dX10_letter_24 : decode cX10_letter 24 = .ok (.iconst 0, 1) := by decide +kernel
theorem dX10_letter_25 : decode cX10_letter 25 = .ok (.invokevirtual 81, 3) := by decide +kernel
theorem dX10_letter_28 : decode cX10_letter 28 = .ok (.istore_n 2, 1) := by decide +kernel
theorem dX10_letter_29 : decode cX10_letter 29 = .ok (.iload_n 2, 1) := by decide +kernel
theorem dX10_letter_30 : decode cX10_letter 30 = .ok (.ifCond .eq 7, 3) := by decide +kernel
theorem dX10_letter_33 : decode cX10_letter 33 = .ok (.iload_n 2, 1) := by decide +kernel
theorem dX10_letter_34 : decode cX10_letter 34 = .ok (.goto 11, 3) := by decide +kernel
theorem dX10_letter_37 : decode cX10_letter 37 = .ok (.aload_n 0, 1) := by decide +kernel
theorem dX10_letter_38 : decode cX10_letter 38 = .ok (.getfield 54, 3) := by decide +kernel
theorem dX10_letter_41 : decode cX10_letter 41 = .ok (.iload_n 1, 1) := by decide +kernel
theorem dX10_letter_42 : decode cX10_letter 42 = .ok (.invokevirtual 85, 3) := by decide +kernel
theorem dX10_letter_45 : decode cX10_letter 45 = .ok (.ireturn, 1) := by decide +kernel
set_option maxRecDepth 20000 in
theorem ggX10_valley_X8_copy : GoodIn wsX10_valley wsX8_copy := goodIn_r _ [8, 9, 10, 11, 12, 13, 14, 15, 16, 17, 18, 19, 20, 327, 328, 329, 330, 331, 332, 333, 334, 335] (by decide +kernel) (by decide +kernel)
set_option maxRecDepth 20000 in
theorem gX10_valley_X8_copy : GoodIn wsX10_valley (wsV RX10 89 RX8 yX8_copy wsX8_copy) := goodIn_app (goodIn_of _ (by decide +kernel)) ggX10_valley_X8_copy
set_option maxRecDepth 20000 in
theorem ggX10_valley_X7_tell : GoodIn wsX10_valley wsX7_tell := goodIn_r _ [25, 26, 27, 28, 29, 24, 30, 31, 32, 33, 34, 35, 36, 37, 38, 39, 40, 41, 42, 43, 44, 45, 46, 47, 48, 49, 50, 51, 52, 53, 54, 55, 56, 57, 58, 59, 60, 61, 62, 63, 64, 65, 66, 67, 68, 69, 70, 71, 72, 73, 74, 75, 76, 77, 78, 79, 80, 81, 82, 83, 84, 85, 86, 87, 88, 89, 90, 91, 92, 93, 94, 95, 96, 97, 98, 99, 100, 101, 102, 103, 104, 105, 106, 107, 108, 109, 110, 111, 112, 113, 114, 115, 116, 117, 118, 119, 120, 121, 122, 123, 124, 125, 126, 127, 128, 129, 130, 131, 132, 133, 134, 135, 136, 137, 138, 139, 140, 141, 142, 143, 144, 145, 146, 147, 148, 149, 150, 151, 152, 153, 154, 155, 156, 157, 158, 159, 160, 161, 162, 163, 164, 165, 166, 167, 168, 169, 170, 171, 7, 172, 18, 9, 14, 15, 16, 173, 174, 175, 176, 17, 177, 178, 179, 180, 181, 182, 183, 184, 185, 186, 187, 188, 189, 190, 191, 192, 193, 194, 195, 196, 197, 198, 199, 200, 201, 202, 203, 204, 205, 206, 207, 208, 209, 210, 211, 212, 213, 214, 215, 216, 217, 218, 219, 220, 221, 222, 223, 224, 225, 226, 227, 228, 229, 230, 231, 232, 233, 234, 235, 236, 237, 238, 239, 240, 241, 20, 242, 243, 244, 245, 246, 247, 248, 249, 250, 251, 252, 253, 254, 255, 256, 257, 258, 259, 260, 261, 262, 263, 264, 265, 266, 267, 268, 269, 270, 271, 272, 273, 274, 275, 276, 277, 278, 279, 280, 281, 282, 283, 284, 285, 286, 19, 287, 288, 289, 290, 291, 292, 293, 294, 295, 296, 297, 298, 299, 300, 301, 302, 303, 304, 305, 306, 307, 308, 309, 310, 311, 312, 313, 314, 336, 337, 327, 328, 329, 330, 331, 332, 333, 334, 335] (by decide +kernel) (by decide +kernel)
set_option maxRecDepth 20000 in
theorem gX10_valley_X7_tell : GoodIn wsX10_valley (wsV RX10 93 RX7 yX7_tell wsX7_tell) := goodIn_app (goodIn_of _ (by decide +kernel)) ggX10_valley_X7_tell
set_option maxRecDepth 20000 in
theorem ggX10_valley_X7_forgetLetters : GoodIn wsX10_valley wsX7_forgetLetters := goodIn_r _ [318, 26, 336, 337] (by decide +kernel) (by decide +kernel)
set_option maxRecDepth 20000 in
theorem gX10_valley_X7_forgetLetters : GoodIn wsX10_valley (wsV RX10 97 RX7 yX7_forgetLetters wsX7_forgetLetters) := goodIn_app (goodIn_of _ (by decide +kernel)) ggX10_valley_X7_forgetLetters
theorem dX10_valley_0 : decode cX10_valley 0 = .ok (.aload_n 0, 1) := by decide +kernel
theorem dX10_valley_1 : decode cX10_valley 1 = .ok (.getfield 39, 3) := by decide +kernel
theorem dX10_valley_4 : decode cX10_valley 4 = .ok (.aload_n 0, 1) := by decide +kernel
theorem dX10_valley_5 : decode cX10_valley 5 = .ok (.getfield 32, 3) := by decide +kernel
theorem dX10_valley_8 : decode cX10_valley 8 = .ok (.invokevirtual 89, 3) := by decide +kernel
theorem dX10_valley_11 : decode cX10_valley 11 = .ok (.aload_n 0, 1) := by decide +kernel
theorem dX10_valley_12 : decode cX10_valley 12 = .ok (.getfield 54, 3) := by decide +kernel
theorem dX10_valley_15 : decode cX10_valley 15 = .ok (.aload_n 0, 1) := by decide +kernel
theorem dX10_valley_16 : decode cX10_valley 16 = .ok (.getfield 39, 3) := by decide +kernel
theorem dX10_valley_19 : decode cX10_valley 19 = .ok (.invokevirtual 93, 3) := by decide +kernel
theorem dX10_valley_22 : decode cX10_valley 22 = .ok (.istore_n 1, 1) := by decide +kernel
theorem dX10_valley_23 : decode cX10_valley 23 = .ok (.aload_n 0, 1) := by decide +kernel
theorem dX10_valley_24 : decode cX10_valley 24 = .ok (.getfield 54, 3) := by decide +kernel
theorem dX10_valley_27 : decode cX10_valley 27 = .ok (.invokevirtual 97, 3) := by decide +kernel
theorem dX10_valley_30 : decode cX10_valley 30 = .ok (.iload_n 1, 1) := by decide +kernel
theorem dX10_valley_31 : decode cX10_valley 31 = .ok (.ifCond .le 14, 3) := by decide +kernel
theorem dX10_valley_34 : decode cX10_valley 34 = .ok (.aload_n 0, 1) := by decide +kernel
theorem dX10_valley_35 : decode cX10_valley 35 = .ok (.getfield 32, 3) := by decide +kernel
theorem dX10_valley_38 : decode cX10_valley 38 = .ok (.aload_n 0, 1) := by decide +kernel
theorem dX10_valley_39 : decode cX10_valley 39 = .ok (.getfield 39, 3) := by decide +kernel
theorem dX10_valley_42 : decode cX10_valley 42 = .ok (.invokevirtual 89, 3) := by decide +kernel
theorem dX10_valley_45 : decode cX10_valley 45 = .ok (.iload_n 1, 1) := by decide +kernel
theorem dX10_valley_46 : decode cX10_valley 46 = .ok (.ireturn, 1) := by decide +kernel
set_option maxRecDepth 20000 in
theorem ggX10_person_X10_nobody : GoodIn wsX10_person wsX10_nobody := goodIn_r _ [10, 1, 11, 12, 13, 14, 15, 16, 64, 65, 66, 67, 68, 69, 70, 71, 72, 73, 74, 75, 76, 77, 78, 79, 80] (by decide +kernel) (by decide +kernel)
set_option maxRecDepth 20000 in
theorem gX10_person_X10_nobody : GoodIn wsX10_person (wsV RX10 100 RX10 yX10_nobody wsX10_nobody) := goodIn_app (goodIn_of _ (by decide +kernel)) ggX10_person_X10_nobody
set_option maxRecDepth 20000 in
theorem ggX10_person_X10_wrongWhat : GoodIn wsX10_person wsX10_wrongWhat := goodIn_r _ [19] (by decide +kernel) (by decide +kernel)
set_option maxRecDepth 20000 in
theorem gX10_person_X10_wrongWhat : GoodIn wsX10_person (va_wsS RX10 103 yX10_wrongWhat wsX10_wrongWhat) := goodIn_app (goodIn_of _ (by decide +kernel)) ggX10_person_X10_wrongWhat
set_option maxRecDepth 20000 in
theorem ggX10_person_X10_refused_ : GoodIn wsX10_person wsX10_refused_ := goodIn_r _ [23, 24, 25, 9, 26, 27, 28, 29, 30, 31, 64, 65, 66, 67, 68, 69, 70, 71] (by decide +kernel) (by decide +kernel)
set_option maxRecDepth 20000 in
theorem gX10_person_X10_refused_ : GoodIn wsX10_person (wsV RX10 81 RX10 yX10_refused_ wsX10_refused_) := goodIn_app (goodIn_of _ (by decide +kernel)) ggX10_person_X10_refused_
set_option maxRecDepth 20000 in
theorem ggX10_person_X8_knownOf : GoodIn wsX10_person wsX8_knownOf := goodIn_r _ [35, 16, 36, 37, 72, 73, 74, 75, 76, 77, 78, 79, 80] (by decide +kernel) (by decide +kernel)
set_option maxRecDepth 20000 in
theorem gX10_person_X8_knownOf : GoodIn wsX10_person (wsV RX10 119 RX8 yX8_knownOf wsX8_knownOf) := goodIn_app (goodIn_of _ (by decide +kernel)) ggX10_person_X8_knownOf
set_option maxRecDepth 20000 in
theorem ggX10_person_X8_mayBeNamed : GoodIn wsX10_person wsX8_mayBeNamed := goodIn_r _ [41, 42, 43, 44, 45, 46, 47, 48, 49, 50, 51, 52, 53, 54, 55, 56, 57, 58, 59, 60, 61, 62, 63, 72, 73, 74, 75, 76, 77, 78, 79, 80] (by decide +kernel) (by decide +kernel)
set_option maxRecDepth 20000 in
theorem gX10_person_X8_mayBeNamed : GoodIn wsX10_person (wsV RX10 122 RX8 yX8_mayBeNamed wsX8_mayBeNamed) := goodIn_app (goodIn_of _ (by decide +kernel)) ggX10_person_X8_mayBeNamed
theorem dX10_person_0 : decode cX10_person 0 = .ok (.aload_n 0, 1) := by decide +kernel
theorem dX10_person_1 : decode cX10_person 1 = .ok (.aload_n 0, 1) := by decide +kernel
theorem dX10_person_2 : decode cX10_person 2 = .ok (.iload_n 1, 1) := by decide +kernel
theorem dX10_person_3 : decode cX10_person 3 = .ok (.invokevirtual 100, 3) := by decide +kernel
theorem dX10_person_6 : decode cX10_person 6 = .ok (.iload_n 2, 1) := by decide +kernel
theorem dX10_person_7 : decode cX10_person 7 = .ok (.iconst 5, 1) := by decide +kernel
theorem dX10_person_8 : decode cX10_person 8 = .ok (.invokestatic 103, 3) := by decide +kernel
theorem dX10_person_11 : decode cX10_person 11 = .ok (.invokevirtual 81, 3) := by decide +kernel
theorem dX10_person_14 : decode cX10_person 14 = .ok (.istore_n 3, 1) := by decide +kernel
theorem dX10_person_15 : decode cX10_person 15 = .ok (.iload_n 3, 1) := by decide +kernel
theorem dX10_person_16 : decode cX10_person 16 = .ok (.ifCond .eq 5, 3) := by decide +kernel
theorem dX10_person_19 : decode cX10_person 19 = .ok (.iload_n 3, 1) := by decide +kernel
theorem dX10_person_20 : decode cX10_person 20 = .ok (.ireturn, 1) := by decide +kernel
theorem dX10_person_21 : decode cX10_person 21 = .ok (.iload_n 2, 1) := by decide +kernel
theorem dX10_person_22 : decode cX10_person 22 = .ok (.tableswitch 91 0 4 #[34, 44, 54, 72, 82], 34) := by decide +kernel
theorem dX10_person_56 : decode cX10_person 56 = .ok (.aload_n 0, 1) := by decide +kernel
theorem dX10_person_57 : decode cX10_person 57 = .ok (.getfield 32, 3) := by decide +kernel
theorem dX10_person_60 : decode cX10_person 60 = .ok (.getfield 106, 3) := by decide +kernel
theorem dX10_person_63 : decode cX10_person 63 = .ok (.iload_n 1, 1) := by decide +kernel
theorem dX10_person_64 : decode cX10_person 64 = .ok (.iaload, 1) := by decide +kernel
theorem dX10_person_65 : decode cX10_person 65 = .ok (.ireturn, 1) := by decide +kernel
theorem dX10_person_66 : decode cX10_person 66 = .ok (.aload_n 0, 1) := by decide +kernel
theorem dX10_person_67 : decode cX10_person 67 = .ok (.getfield 32, 3) := by decide +kernel
theorem dX10_person_70 : decode cX10_person 70 = .ok (.getfield 109, 3) := by decide +kernel
theorem dX10_person_73 : decode cX10_person 73 = .ok (.iload_n 1, 1) := by decide +kernel
theorem dX10_person_74 : decode cX10_person 74 = .ok (.iaload, 1) := by decide +kernel
theorem dX10_person_75 : decode cX10_person 75 = .ok (.ireturn, 1) := by decide +kernel
theorem dX10_person_76 : decode cX10_person 76 = .ok (.aload_n 0, 1) := by decide +kernel
theorem dX10_person_77 : decode cX10_person 77 = .ok (.getfield 32, 3) := by decide +kernel
theorem dX10_person_80 : decode cX10_person 80 = .ok (.getfield 112, 3) := by decide +kernel
theorem dX10_person_83 : decode cX10_person 83 = .ok (.iload_n 1, 1) := by decide +kernel
theorem dX10_person_84 : decode cX10_person 84 = .ok (.baload, 1) := by decide +kernel
theorem dX10_person_85 : decode cX10_person 85 = .ok (.ifCond .eq 7, 3) := by decide +kernel
theorem dX10_person_88 : decode cX10_person 88 = .ok (.iconst 1, 1) := by decide +kernel
theorem dX10_person_89 : decode cX10_person 89 = .ok (.goto 4, 3) := by decide +kernel
theorem dX10_person_92 : decode cX10_person 92 = .ok (.iconst 0, 1) := by decide +kernel
theorem dX10_person_93 : decode cX10_person 93 = .ok (.ireturn, 1) := by decide +kernel
theorem dX10_person_94 : decode cX10_person 94 = .ok (.aload_n 0, 1) := by decide +kernel
theorem dX10_person_95 : decode cX10_person 95 = .ok (.getfield 32, 3) := by decide +kernel
theorem dX10_person_98 : decode cX10_person 98 = .ok (.getfield 116, 3) := by decide +kernel
theorem dX10_person_101 : decode cX10_person 101 = .ok (.iload_n 1, 1) := by decide +kernel
theorem dX10_person_102 : decode cX10_person 102 = .ok (.iaload, 1) := by decide +kernel
theorem dX10_person_103 : decode cX10_person 103 = .ok (.ireturn, 1) := by decide +kernel
theorem dX10_person_104 : decode cX10_person 104 = .ok (.aload_n 0, 1) := by decide +kernel
theorem dX10_person_105 : decode cX10_person 105 = .ok (.getfield 32, 3) := by decide +kernel
theorem dX10_person_108 : decode cX10_person 108 = .ok (.iload_n 1, 1) := by decide +kernel
theorem dX10_person_109 : decode cX10_person 109 = .ok (.invokevirtual 119, 3) := by decide +kernel
theorem dX10_person_112 : decode cX10_person 112 = .ok (.ireturn, 1) := by decide +kernel
theorem dX10_person_113 : decode cX10_person 113 = .ok (.aload_n 0, 1) := by decide +kernel
theorem dX10_person_114 : decode cX10_person 114 = .ok (.getfield 32, 3) := by decide +kernel
theorem dX10_person_117 : decode cX10_person 117 = .ok (.iload_n 1, 1) := by decide +kernel
theorem dX10_person_118 : decode cX10_person 118 = .ok (.invokevirtual 122, 3) := by decide +kernel
theorem dX10_person_121 : decode cX10_person 121 = .ok (.ifCond .eq 7, 3) := by decide +kernel
theorem dX10_person_124 : decode cX10_person 124 = .ok (.iconst 1, 1) := by decide +kernel
theorem dX10_person_125 : decode cX10_person 125 = .ok (.goto 4, 3) := by decide +kernel
theorem dX10_person_128 : decode cX10_person 128 = .ok (.iconst 0, 1) := by decide +kernel
theorem dX10_person_129 : decode cX10_person 129 = .ok (.ireturn, 1) := by decide +kernel
set_option maxRecDepth 20000 in
theorem ggX10_memory_X10_notTwo : GoodIn wsX10_memory wsX10_notTwo := goodIn_r _ [6, 1, 7, 8, 9, 10, 11, 12, 13, 14, 15, 16, 31, 32, 33, 34, 35, 36, 37, 38, 39, 40, 41, 42, 43, 44, 45, 46, 47] (by decide +kernel) (by decide +kernel)
set_option maxRecDepth 20000 in
theorem gX10_memory_X10_notTwo : GoodIn wsX10_memory (wsV RX10 126 RX10 yX10_notTwo wsX10_notTwo) := goodIn_app (goodIn_of _ (by decide +kernel)) ggX10_memory_X10_notTwo
set_option maxRecDepth 20000 in
theorem ggX10_memory_X10_refused : GoodIn wsX10_memory wsX10_refused := goodIn_r _ [20, 21, 22, 23, 5, 24, 25, 31, 32, 33, 34, 35, 36, 37, 38] (by decide +kernel) (by decide +kernel)
set_option maxRecDepth 20000 in
theorem gX10_memory_X10_refused : GoodIn wsX10_memory (wsV RX10 129 RX10 yX10_refused wsX10_refused) := goodIn_app (goodIn_of _ (by decide +kernel)) ggX10_memory_X10_refused
set_option maxRecDepth 20000 in
theorem ggX10_memory_X8_memoryOf : GoodIn wsX10_memory wsX8_memoryOf := goodIn_r _ [29, 30, 39, 40, 41, 42, 43, 44, 45, 46, 47] (by decide +kernel) (by decide +kernel)
set_option maxRecDepth 20000 in
theorem gX10_memory_X8_memoryOf : GoodIn wsX10_memory (wsV RX10 131 RX8 yX8_memoryOf wsX8_memoryOf) := goodIn_app (goodIn_of _ (by decide +kernel)) ggX10_memory_X8_memoryOf
theorem dX10_memory_0 : decode cX10_memory 0 = .ok (.aload_n 0, 1) := by decide +kernel
theorem dX10_memory_1 : decode cX10_memory 1 = .ok (.aload_n 0, 1) := by decide +kernel
theorem dX10_memory_2 : decode cX10_memory 2 = .ok (.iload_n 1, 1) := by decide +kernel
theorem dX10_memory_3 : decode cX10_memory 3 = .ok (.iload_n 2, 1) := by decide +kernel
theorem dX10_memory_4 : decode cX10_memory 4 = .ok (.invokevirtual 126, 3) := by decide +kernel
theorem dX10_memory_7 : decode cX10_memory 7 = .ok (.invokevirtual 129, 3) := by decide +kernel
theorem dX10_memory_10 : decode cX10_memory 10 = .ok (.istore_n 3, 1) := by decide +kernel
theorem dX10_memory_11 : decode cX10_memory 11 = .ok (.iload_n 3, 1) := by decide +kernel
theorem dX10_memory_12 : decode cX10_memory 12 = .ok (.ifCond .eq 7, 3) := by decide +kernel
theorem dX10_memory_15 : decode cX10_memory 15 = .ok (.iload_n 3, 1) := by decide +kernel
theorem dX10_memory_16 : decode cX10_memory 16 = .ok (.goto 12, 3) := by decide +kernel
theorem dX10_memory_19 : decode cX10_memory 19 = .ok (.aload_n 0, 1) := by decide +kernel
theorem dX10_memory_20 : decode cX10_memory 20 = .ok (.getfield 32, 3) := by decide +kernel
theorem dX10_memory_23 : decode cX10_memory 23 = .ok (.iload_n 1, 1) := by decide +kernel
theorem dX10_memory_24 : decode cX10_memory 24 = .ok (.iload_n 2, 1) := by decide +kernel
theorem dX10_memory_25 : decode cX10_memory 25 = .ok (.invokevirtual 131, 3) := by decide +kernel
theorem dX10_memory_28 : decode cX10_memory 28 = .ok (.ireturn, 1) := by decide +kernel
set_option maxRecDepth 20000 in
theorem ggX10_recalls_X10_notTwo : GoodIn wsX10_recalls wsX10_notTwo := goodIn_r _ [6, 1, 7, 8, 9, 10, 11, 12, 13, 14, 15, 16, 41, 42, 43, 44, 45, 46, 47, 48, 49, 50, 51, 52, 53, 54, 55, 56, 57] (by decide +kernel) (by decide +kernel)
set_option maxRecDepth 20000 in
theorem gX10_recalls_X10_notTwo : GoodIn wsX10_recalls (wsV RX10 126 RX10 yX10_notTwo wsX10_notTwo) := goodIn_app (goodIn_of _ (by decide +kernel)) ggX10_recalls_X10_notTwo
set_option maxRecDepth 20000 in
theorem ggX10_recalls_X10_outside : GoodIn wsX10_recalls wsX10_outside := goodIn_r _ [19] (by decide +kernel) (by decide +kernel)
set_option maxRecDepth 20000 in
theorem gX10_recalls_X10_outside : GoodIn wsX10_recalls (va_wsS RX10 73 yX10_outside wsX10_outside) := goodIn_app (goodIn_of _ (by decide +kernel)) ggX10_recalls_X10_outside
set_option maxRecDepth 20000 in
theorem ggX10_recalls_X10_refused_ : GoodIn wsX10_recalls wsX10_refused_ := goodIn_r _ [23, 24, 25, 5, 26, 27, 28, 29, 30, 31, 41, 42, 43, 44, 45, 46, 47, 48] (by decide +kernel) (by decide +kernel)
set_option maxRecDepth 20000 in
theorem gX10_recalls_X10_refused_ : GoodIn wsX10_recalls (wsV RX10 81 RX10 yX10_refused_ wsX10_refused_) := goodIn_app (goodIn_of _ (by decide +kernel)) ggX10_recalls_X10_refused_
set_option maxRecDepth 20000 in
theorem ggX10_recalls_X8_memoryOf : GoodIn wsX10_recalls wsX8_memoryOf := goodIn_r _ [35, 36, 49, 50, 51, 52, 53, 54, 55, 56, 57] (by decide +kernel) (by decide +kernel)
set_option maxRecDepth 20000 in
theorem gX10_recalls_X8_memoryOf : GoodIn wsX10_recalls (wsV RX10 131 RX8 yX8_memoryOf wsX8_memoryOf) := goodIn_app (goodIn_of _ (by decide +kernel)) ggX10_recalls_X8_memoryOf
set_option maxRecDepth 20000 in
theorem ggX10_recalls_X8_setMemory : GoodIn wsX10_recalls wsX8_setMemory := goodIn_r _ [40, 36, 49, 50, 51, 52, 53, 54, 55, 56, 57] (by decide +kernel) (by decide +kernel)
set_option maxRecDepth 20000 in
theorem gX10_recalls_X8_setMemory : GoodIn wsX10_recalls (wsV RX10 134 RX8 yX8_setMemory wsX8_setMemory) := goodIn_app (goodIn_of _ (by decide +kernel)) ggX10_recalls_X8_setMemory
theorem dX10_recalls_0 : decode cX10_recalls 0 = .ok (.aload_n 0, 1) := by decide +kernel
theorem dX10_recalls_1 : decode cX10_recalls 1 = .ok (.aload_n 0, 1) := by decide +kernel
theorem dX10_recalls_2 : decode cX10_recalls 2 = .ok (.iload_n 1, 1) := by decide +kernel
theorem dX10_recalls_3 : decode cX10_recalls 3 = .ok (.iload_n 2, 1) := by decide +kernel
theorem dX10_recalls_4 : decode cX10_recalls 4 = .ok (.invokevirtual 126, 3) := by decide +kernel
theorem dX10_recalls_7 : decode cX10_recalls 7 = .ok (.iload_n 3, 1) := by decide +kernel
theorem dX10_recalls_8 : decode cX10_recalls 8 = .ok (.iconst 0, 1) := by decide +kernel
theorem dX10_recalls_9 : decode cX10_recalls 9 = .ok (.bipush 99, 2) := by decide +kernel
theorem dX10_recalls_11 : decode cX10_recalls 11 = .ok (.invokestatic 73, 3) := by decide +kernel
theorem dX10_recalls_14 : decode cX10_recalls 14 = .ok (.invokevirtual 81, 3) := by decide +kernel
theorem dX10_recalls_17 : decode cX10_recalls 17 = .ok (.istore 4, 2) := by decide +kernel
theorem dX10_recalls_19 : decode cX10_recalls 19 = .ok (.iload 4, 2) := by decide +kernel
theorem dX10_recalls_21 : decode cX10_recalls 21 = .ok (.ifCond .eq 6, 3) := by decide +kernel
theorem dX10_recalls_24 : decode cX10_recalls 24 = .ok (.iload 4, 2) := by decide +kernel
theorem dX10_recalls_26 : decode cX10_recalls 26 = .ok (.ireturn, 1) := by decide +kernel
theorem dX10_recalls_27 : decode cX10_recalls 27 = .ok (.aload_n 0, 1) := by decide +kernel
theorem dX10_recalls_28 : decode cX10_recalls 28 = .ok (.getfield 32, 3) := by decide +kernel
theorem dX10_recalls_31 : decode cX10_recalls 31 = .ok (.iload_n 1, 1) := by decide +kernel
theorem dX10_recalls_32 : decode cX10_recalls 32 = .ok (.iload_n 2, 1) := by decide +kernel
theorem dX10_recalls_33 : decode cX10_recalls 33 = .ok (.invokevirtual 131, 3) := by decide +kernel
theorem dX10_recalls_36 : decode cX10_recalls 36 = .ok (.istore 5, 2) := by decide +kernel
theorem dX10_recalls_38 : decode cX10_recalls 38 = .ok (.aload_n 0, 1) := by decide +kernel
theorem dX10_recalls_39 : decode cX10_recalls 39 = .ok (.getfield 32, 3) := by decide +kernel
theorem dX10_recalls_42 : decode cX10_recalls 42 = .ok (.iload_n 1, 1) := by decide +kernel
theorem dX10_recalls_43 : decode cX10_recalls 43 = .ok (.iload_n 2, 1) := by decide +kernel
theorem dX10_recalls_44 : decode cX10_recalls 44 = .ok (.iload_n 3, 1) := by decide +kernel
theorem dX10_recalls_45 : decode cX10_recalls 45 = .ok (.invokevirtual 134, 3) := by decide +kernel
theorem dX10_recalls_48 : decode cX10_recalls 48 = .ok (.iload 5, 2) := by decide +kernel
theorem dX10_recalls_50 : decode cX10_recalls 50 = .ok (.ireturn, 1) := by decide +kernel
set_option maxRecDepth 20000 in
theorem ggX10_speaks_X10_notTwo : GoodIn wsX10_speaks wsX10_notTwo := goodIn_r _ [6, 1, 7, 8, 9, 10, 11, 12, 13, 14, 15, 16, 52, 53, 54, 55, 56, 57, 58, 59, 60, 61, 62, 63, 64, 65, 66, 67, 68] (by decide +kernel) (by decide +kernel)
set_option maxRecDepth 20000 in
theorem gX10_speaks_X10_notTwo : GoodIn wsX10_speaks (wsV RX10 126 RX10 yX10_notTwo wsX10_notTwo) := goodIn_app (goodIn_of _ (by decide +kernel)) ggX10_speaks_X10_notTwo
set_option maxRecDepth 20000 in
theorem ggX10_speaks_X10_forgotten : GoodIn wsX10_speaks wsX10_forgotten := goodIn_r _ [20, 1, 21, 22, 13, 14, 10, 15, 16, 52, 53, 54, 55, 56, 57, 58, 59, 60, 61, 62, 63, 64, 65, 66, 67, 68] (by decide +kernel) (by decide +kernel)
set_option maxRecDepth 20000 in
theorem gX10_speaks_X10_forgotten : GoodIn wsX10_speaks (wsV RX10 138 RX10 yX10_forgotten wsX10_forgotten) := goodIn_app (goodIn_of _ (by decide +kernel)) ggX10_speaks_X10_forgotten
set_option maxRecDepth 20000 in
theorem ggX10_speaks_X10_refused__ : GoodIn wsX10_speaks wsX10_refused__ := goodIn_r _ [26, 27, 28, 5, 29, 30, 31, 32, 33, 34, 52, 53, 54, 55, 56, 57, 58, 59] (by decide +kernel) (by decide +kernel)
set_option maxRecDepth 20000 in
theorem gX10_speaks_X10_refused__ : GoodIn wsX10_speaks (wsV RX10 141 RX10 yX10_refused__ wsX10_refused__) := goodIn_app (goodIn_of _ (by decide +kernel)) ggX10_speaks_X10_refused__
set_option maxRecDepth 20000 in
theorem ggX10_speaks_X8_talk : GoodIn wsX10_speaks wsX8_talk := goodIn_r _ [38, 39, 40, 41, 10, 42, 43, 44, 45, 46, 47, 60, 61, 62, 63, 64, 65, 66, 67, 68] (by decide +kernel) (by decide +kernel)
set_option maxRecDepth 20000 in
theorem gX10_speaks_X8_talk : GoodIn wsX10_speaks (wsV RX10 143 RX8 yX8_talk wsX8_talk) := goodIn_app (goodIn_of _ (by decide +kernel)) ggX10_speaks_X8_talk
set_option maxRecDepth 20000 in
theorem ggX10_speaks_X8_memoryOf : GoodIn wsX10_speaks wsX8_memoryOf := goodIn_r _ [51, 43, 60, 61, 62, 63, 64, 65, 66, 67, 68] (by decide +kernel) (by decide +kernel)
set_option maxRecDepth 20000 in
theorem gX10_speaks_X8_memoryOf : GoodIn wsX10_speaks (wsV RX10 131 RX8 yX8_memoryOf wsX8_memoryOf) := goodIn_app (goodIn_of _ (by decide +kernel)) ggX10_speaks_X8_memoryOf
theorem dX10_speaks_0 : decode cX10_speaks 0 = .ok (.aload_n 0, 1) := by decide +kernel
theorem dX10_speaks_1 : decode cX10_speaks 1 = .ok (.aload_n 0, 1) := by decide +kernel
theorem dX10_speaks_2 : decode cX10_speaks 2 = .ok (.iload_n 1, 1) := by decide +kernel
theorem dX10_speaks_3 : decode cX10_speaks 3 = .ok (.iload_n 2, 1) := by decide +kernel
theorem dX10_speaks_4 : decode cX10_speaks 4 = .ok (.invokevirtual 126, 3) := by decide +kernel
theorem dX10_speaks_7 : decode cX10_speaks 7 = .ok (.aload_n 0, 1) := by decide +kernel
theorem dX10_speaks_8 : decode cX10_speaks 8 = .ok (.iload_n 1, 1) := by decide +kernel
theorem dX10_speaks_9 : decode cX10_speaks 9 = .ok (.invokevirtual 138, 3) := by decide +kernel
theorem dX10_speaks_12 : decode cX10_speaks 12 = .ok (.aload_n 0, 1) := by decide +kernel
theorem dX10_speaks_13 : decode cX10_speaks 13 = .ok (.iload_n 2, 1) := by decide +kernel
theorem dX10_speaks_14 : decode cX10_speaks 14 = .ok (.invokevirtual 138, 3) := by decide +kernel
theorem dX10_speaks_17 : decode cX10_speaks 17 = .ok (.invokevirtual 141, 3) := by decide +kernel
theorem dX10_speaks_20 : decode cX10_speaks 20 = .ok (.istore_n 3, 1) := by decide +kernel
theorem dX10_speaks_21 : decode cX10_speaks 21 = .ok (.iload_n 3, 1) := by decide +kernel
theorem dX10_speaks_22 : decode cX10_speaks 22 = .ok (.ifCond .eq 5, 3) := by decide +kernel
theorem dX10_speaks_25 : decode cX10_speaks 25 = .ok (.iload_n 3, 1) := by decide +kernel
theorem dX10_speaks_26 : decode cX10_speaks 26 = .ok (.ireturn, 1) := by decide +kernel
theorem dX10_speaks_27 : decode cX10_speaks 27 = .ok (.aload_n 0, 1) := by decide +kernel
theorem dX10_speaks_28 : decode cX10_speaks 28 = .ok (.getfield 32, 3) := by decide +kernel
theorem dX10_speaks_31 : decode cX10_speaks 31 = .ok (.iload_n 1, 1) := by decide +kernel
theorem dX10_speaks_32 : decode cX10_speaks 32 = .ok (.iload_n 2, 1) := by decide +kernel
theorem dX10_speaks_33 : decode cX10_speaks 33 = .ok (.invokevirtual 143, 3) := by decide +kernel
theorem dX10_speaks_36 : decode cX10_speaks 36 = .ok (.aload_n 0, 1) := by decide +kernel
theorem dX10_speaks_37 : decode cX10_speaks 37 = .ok (.getfield 32, 3) := by decide +kernel
theorem dX10_speaks_40 : decode cX10_speaks 40 = .ok (.iload_n 1, 1) := by decide +kernel
theorem dX10_speaks_41 : decode cX10_speaks 41 = .ok (.iload_n 2, 1) := by decide +kernel
theorem dX10_speaks_42 : decode cX10_speaks 42 = .ok (.invokevirtual 131, 3) := by decide +kernel
theorem dX10_speaks_45 : decode cX10_speaks 45 = .ok (.aload_n 0, 1) := by decide +kernel
theorem dX10_speaks_46 : decode cX10_speaks 46 = .ok (.getfield 32, 3) := by decide +kernel
theorem dX10_speaks_49 : decode cX10_speaks 49 = .ok (.iload_n 2, 1) := by decide +kernel
theorem dX10_speaks_50 : decode cX10_speaks 50 = .ok (.iload_n 1, 1) := by decide +kernel
theorem dX10_speaks_51 : decode cX10_speaks 51 = .ok (.invokevirtual 131, 3) := by decide +kernel
theorem dX10_speaks_54 : decode cX10_speaks 54 = .ok (.iadd, 1) := by decide +kernel
theorem dX10_speaks_55 : decode cX10_speaks 55 = .ok (.ireturn, 1) := by decide +kernel
set_option maxRecDepth 20000 in
theorem ggX10_owes_X10_nobody : GoodIn wsX10_owes wsX10_nobody := goodIn_r _ [7, 1, 8, 9, 10, 11, 12, 13, 29, 30, 31, 32, 33, 34, 35, 36, 37, 38, 39, 40, 41, 42, 43, 44, 45] (by decide +kernel) (by decide +kernel)
set_option maxRecDepth 20000 in
theorem gX10_owes_X10_nobody : GoodIn wsX10_owes (wsV RX10 100 RX10 yX10_nobody wsX10_nobody) := goodIn_app (goodIn_of _ (by decide +kernel)) ggX10_owes_X10_nobody
set_option maxRecDepth 20000 in
theorem ggX10_owes_X10_outside : GoodIn wsX10_owes wsX10_outside := goodIn_r _ [16] (by decide +kernel) (by decide +kernel)
set_option maxRecDepth 20000 in
theorem gX10_owes_X10_outside : GoodIn wsX10_owes (va_wsS RX10 73 yX10_outside wsX10_outside) := goodIn_app (goodIn_of _ (by decide +kernel)) ggX10_owes_X10_outside
set_option maxRecDepth 20000 in
theorem ggX10_owes_X10_refused_ : GoodIn wsX10_owes wsX10_refused_ := goodIn_r _ [20, 21, 22, 6, 23, 24, 25, 26, 27, 28, 29, 30, 31, 32, 33, 34, 35, 36] (by decide +kernel) (by decide +kernel)
set_option maxRecDepth 20000 in
theorem gX10_owes_X10_refused_ : GoodIn wsX10_owes (wsV RX10 81 RX10 yX10_refused_ wsX10_refused_) := goodIn_app (goodIn_of _ (by decide +kernel)) ggX10_owes_X10_refused_
theorem dX10_owes_0 : decode cX10_owes 0 = .ok (.aload_n 0, 1) := by decide +kernel
theorem dX10_owes_1 : decode cX10_owes 1 = .ok (.aload_n 0, 1) := by decide +kernel
theorem dX10_owes_2 : decode cX10_owes 2 = .ok (.iload_n 1, 1) := by decide +kernel
theorem dX10_owes_3 : decode cX10_owes 3 = .ok (.invokevirtual 100, 3) := by decide +kernel
theorem dX10_owes_6 : decode cX10_owes 6 = .ok (.iload_n 2, 1) := by decide +kernel
theorem dX10_owes_7 : decode cX10_owes 7 = .ok (.iconst 0, 1) := by decide +kernel
theorem dX10_owes_8 : decode cX10_owes 8 = .ok (.bipush 99, 2) := by decide +kernel
theorem dX10_owes_10 : decode cX10_owes 10 = .ok (.invokestatic 73, 3) := by decide +kernel
theorem dX10_owes_13 : decode cX10_owes 13 = .ok (.invokevirtual 81, 3) := by decide +kernel
theorem dX10_owes_16 : decode cX10_owes 16 = .ok (.istore_n 3, 1) := by decide +kernel
theorem dX10_owes_17 : decode cX10_owes 17 = .ok (.iload_n 3, 1) := by decide +kernel
theorem dX10_owes_18 : decode cX10_owes 18 = .ok (.ifCond .eq 5, 3) := by decide +kernel
theorem dX10_owes_21 : decode cX10_owes 21 = .ok (.iload_n 3, 1) := by decide +kernel
theorem dX10_owes_22 : decode cX10_owes 22 = .ok (.ireturn, 1) := by decide +kernel
theorem dX10_owes_23 : decode cX10_owes 23 = .ok (.aload_n 0, 1) := by decide +kernel
theorem dX10_owes_24 : decode cX10_owes 24 = .ok (.getfield 32, 3) := by decide +kernel
theorem dX10_owes_27 : decode cX10_owes 27 = .ok (.getfield 116, 3) := by decide +kernel
theorem dX10_owes_30 : decode cX10_owes 30 = .ok (.iload_n 1, 1) := by decide +kernel
theorem dX10_owes_31 : decode cX10_owes 31 = .ok (.iaload, 1) := by decide +kernel
theorem dX10_owes_32 : decode cX10_owes 32 = .ok (.istore 4, 2) := by decide +kernel
theorem dX10_owes_34 : decode cX10_owes 34 = .ok (.aload_n 0, 1) := by decide +kernel
theorem dX10_owes_35 : decode cX10_owes 35 = .ok (.getfield 32, 3) := by decide +kernel
theorem dX10_owes_38 : decode cX10_owes 38 = .ok (.getfield 116, 3) := by decide +kernel
theorem dX10_owes_41 : decode cX10_owes 41 = .ok (.iload_n 1, 1) := by decide +kernel
theorem dX10_owes_42 : decode cX10_owes 42 = .ok (.iload_n 2, 1) := by decide +kernel
theorem dX10_owes_43 : decode cX10_owes 43 = .ok (.iastore, 1) := by decide +kernel
theorem dX10_owes_44 : decode cX10_owes 44 = .ok (.iload 4, 2) := by decide +kernel
theorem dX10_owes_46 : decode cX10_owes 46 = .ok (.ireturn, 1) := by decide +kernel
set_option maxRecDepth 20000 in
theorem ggX10_back_X10_nobody : GoodIn wsX10_back wsX10_nobody := goodIn_r _ [6, 1, 7, 8, 9, 10, 11, 12, 55, 56, 57, 58, 59, 60, 61, 62, 63, 64, 65, 66, 67, 68, 69, 70, 71] (by decide +kernel) (by decide +kernel)
set_option maxRecDepth 20000 in
theorem gX10_back_X10_nobody : GoodIn wsX10_back (wsV RX10 100 RX10 yX10_nobody wsX10_nobody) := goodIn_app (goodIn_of _ (by decide +kernel)) ggX10_back_X10_nobody
set_option maxRecDepth 20000 in
theorem ggX10_back_X8_isHere : GoodIn wsX10_back wsX8_isHere := goodIn_r _ [16, 17, 18, 8, 9, 10, 11, 12, 63, 64, 65, 66, 67, 68, 69, 70, 71] (by decide +kernel) (by decide +kernel)
set_option maxRecDepth 20000 in
theorem gX10_back_X8_isHere : GoodIn wsX10_back (wsV RX10 147 RX8 yX8_isHere wsX8_isHere) := goodIn_app (goodIn_of _ (by decide +kernel)) ggX10_back_X8_isHere
set_option maxRecDepth 20000 in
theorem ggX10_back_X10_refused_ : GoodIn wsX10_back wsX10_refused_ := goodIn_r _ [22, 23, 24, 5, 25, 26, 27, 28, 29, 30, 55, 56, 57, 58, 59, 60, 61, 62] (by decide +kernel) (by decide +kernel)
set_option maxRecDepth 20000 in
theorem gX10_back_X10_refused_ : GoodIn wsX10_back (wsV RX10 81 RX10 yX10_refused_ wsX10_refused_) := goodIn_app (goodIn_of _ (by decide +kernel)) ggX10_back_X10_refused_
set_option maxRecDepth 20000 in
theorem ggX10_back_X8_comeBack : GoodIn wsX10_back wsX8_comeBack := goodIn_r _ [34, 17, 35, 36, 37, 10, 38, 12, 39, 63, 64, 65, 66, 67, 68, 69, 70, 71] (by decide +kernel) (by decide +kernel)
set_option maxRecDepth 20000 in
theorem gX10_back_X8_comeBack : GoodIn wsX10_back (wsV RX10 150 RX8 yX8_comeBack wsX8_comeBack) := goodIn_app (goodIn_of _ (by decide +kernel)) ggX10_back_X8_comeBack
set_option maxRecDepth 20000 in
theorem ggX10_back_X8_countHere : GoodIn wsX10_back wsX8_countHere := goodIn_r _ [43, 44, 45, 46, 10, 47, 12, 17, 48, 49, 50, 51, 52, 53, 54, 63, 64, 65, 66, 67, 68, 69, 70, 71] (by decide +kernel) (by decide +kernel)
set_option maxRecDepth 20000 in
theorem gX10_back_X8_countHere : GoodIn wsX10_back (wsV RX10 154 RX8 yX8_countHere wsX8_countHere) := goodIn_app (goodIn_of _ (by decide +kernel)) ggX10_back_X8_countHere
theorem dX10_back_0 : decode cX10_back 0 = .ok (.aload_n 0, 1) := by decide +kernel
theorem dX10_back_1 : decode cX10_back 1 = .ok (.aload_n 0, 1) := by decide +kernel
theorem dX10_back_2 : decode cX10_back 2 = .ok (.iload_n 1, 1) := by decide +kernel
theorem dX10_back_3 : decode cX10_back 3 = .ok (.invokevirtual 100, 3) := by decide +kernel
theorem dX10_back_6 : decode cX10_back 6 = .ok (.aload_n 0, 1) := by decide +kernel
theorem dX10_back_7 : decode cX10_back 7 = .ok (.getfield 32, 3) := by decide +kernel
theorem dX10_back_10 : decode cX10_back 10 = .ok (.iload_n 1, 1) := by decide +kernel
theorem dX10_back_11 : decode cX10_back 11 = .ok (.invokevirtual 147, 3) := by decide +kernel
theorem dX10_back_14 : decode cX10_back 14 = .ok (.ifCond .eq 8, 3) := by decide +kernel
theorem dX10_back_17 : decode cX10_back 17 = .ok (.bipush (-3), 2) := by decide +kernel
theorem dX10_back_19 : decode cX10_back 19 = .ok (.goto 4, 3) := by decide +kernel
theorem dX10_back_22 : decode cX10_back 22 = .ok (.iconst 0, 1) := by decide +kernel
theorem dX10_back_23 : decode cX10_back 23 = .ok (.invokevirtual 81, 3) := by decide +kernel
theorem dX10_back_26 : decode cX10_back 26 = .ok (.istore_n 2, 1) := by decide +kernel
theorem dX10_back_27 : decode cX10_back 27 = .ok (.iload_n 2, 1) := by decide +kernel
theorem dX10_back_28 : decode cX10_back 28 = .ok (.ifCond .eq 5, 3) := by decide +kernel
theorem dX10_back_31 : decode cX10_back 31 = .ok (.iload_n 2, 1) := by decide +kernel
theorem dX10_back_32 : decode cX10_back 32 = .ok (.ireturn, 1) := by decide +kernel
theorem dX10_back_33 : decode cX10_back 33 = .ok (.aload_n 0, 1) := by decide +kernel
theorem dX10_back_34 : decode cX10_back 34 = .ok (.getfield 32, 3) := by decide +kernel
theorem dX10_back_37 : decode cX10_back 37 = .ok (.iload_n 1, 1) := by decide +kernel
theorem dX10_back_38 : decode cX10_back 38 = .ok (.invokevirtual 150, 3) := by decide +kernel
theorem dX10_back_41 : decode cX10_back 41 = .ok (.aload_n 0, 1) := by decide +kernel
theorem dX10_back_42 : decode cX10_back 42 = .ok (.getfield 32, 3) := by decide +kernel
theorem dX10_back_45 : decode cX10_back 45 = .ok (.invokevirtual 154, 3) := by decide +kernel
theorem dX10_back_48 : decode cX10_back 48 = .ok (.ireturn, 1) := by decide +kernel
set_option maxRecDepth 20000 in
theorem ggX10_names_X10_outside : GoodIn wsX10_names wsX10_outside := goodIn_r _ [6] (by decide +kernel) (by decide +kernel)
set_option maxRecDepth 20000 in
theorem gX10_names_X10_outside : GoodIn wsX10_names (va_wsS RX10 73 yX10_outside wsX10_outside) := goodIn_app (goodIn_of _ (by decide +kernel)) ggX10_names_X10_outside
set_option maxRecDepth 20000 in
theorem ggX10_names_X10_refused : GoodIn wsX10_names wsX10_refused := goodIn_r _ [10, 11, 12, 13, 5, 14, 15, 16, 17, 18, 19, 20, 21, 22, 23] (by decide +kernel) (by decide +kernel)
set_option maxRecDepth 20000 in
theorem gX10_names_X10_refused : GoodIn wsX10_names (wsV RX10 129 RX10 yX10_refused wsX10_refused) := goodIn_app (goodIn_of _ (by decide +kernel)) ggX10_names_X10_refused
theorem dX10_names_0 : decode cX10_names 0 = .ok (.aload_n 0, 1) := by decide +kernel
theorem dX10_names_1 : decode cX10_names 1 = .ok (.iload_n 1, 1) := by decide +kernel
theorem dX10_names_2 : decode cX10_names 2 = .ok (.iconst 0, 1) := by decide +kernel
theorem dX10_names_3 : decode cX10_names 3 = .ok (.iconst 3, 1) := by decide +kernel
theorem dX10_names_4 : decode cX10_names 4 = .ok (.invokestatic 73, 3) := by decide +kernel
theorem dX10_names_7 : decode cX10_names 7 = .ok (.invokevirtual 129, 3) := by decide +kernel
theorem dX10_names_10 : decode cX10_names 10 = .ok (.istore_n 2, 1) := by decide +kernel
theorem dX10_names_11 : decode cX10_names 11 = .ok (.iload_n 2, 1) := by decide +kernel
theorem dX10_names_12 : decode cX10_names 12 = .ok (.ifCond .eq 5, 3) := by decide +kernel
theorem dX10_names_15 : decode cX10_names 15 = .ok (.iload_n 2, 1) := by decide +kernel
theorem dX10_names_16 : decode cX10_names 16 = .ok (.ireturn, 1) := by decide +kernel
theorem dX10_names_17 : decode cX10_names 17 = .ok (.aload_n 0, 1) := by decide +kernel
theorem dX10_names_18 : decode cX10_names 18 = .ok (.getfield 32, 3) := by decide +kernel
theorem dX10_names_21 : decode cX10_names 21 = .ok (.getfield 158, 3) := by decide +kernel
theorem dX10_names_24 : decode cX10_names 24 = .ok (.istore_n 3, 1) := by decide +kernel
theorem dX10_names_25 : decode cX10_names 25 = .ok (.aload_n 0, 1) := by decide +kernel
theorem dX10_names_26 : decode cX10_names 26 = .ok (.getfield 32, 3) := by decide +kernel
theorem dX10_names_29 : decode cX10_names 29 = .ok (.iload_n 1, 1) := by decide +kernel
theorem dX10_names_30 : decode cX10_names 30 = .ok (.putfield 158, 3) := by decide +kernel
theorem dX10_names_33 : decode cX10_names 33 = .ok (.iload_n 3, 1) := by decide +kernel
theorem dX10_names_34 : decode cX10_names 34 = .ok (.ireturn, 1) := by decide +kernel
set_option maxRecDepth 20000 in
theorem ggX10_turn_X10_nobody : GoodIn wsX10_turn wsX10_nobody := goodIn_r _ [8, 1, 9, 10, 11, 12, 13, 14, 33, 34, 35, 36, 37, 38, 39, 40, 41, 42, 43, 44, 45, 46, 47, 48, 49] (by decide +kernel) (by decide +kernel)
set_option maxRecDepth 20000 in
theorem gX10_turn_X10_nobody : GoodIn wsX10_turn (wsV RX10 100 RX10 yX10_nobody wsX10_nobody) := goodIn_app (goodIn_of _ (by decide +kernel)) ggX10_turn_X10_nobody
set_option maxRecDepth 20000 in
theorem ggX10_turn_X10_wrongWhat : GoodIn wsX10_turn wsX10_wrongWhat := goodIn_r _ [17] (by decide +kernel) (by decide +kernel)
set_option maxRecDepth 20000 in
theorem gX10_turn_X10_wrongWhat : GoodIn wsX10_turn (va_wsS RX10 103 yX10_wrongWhat wsX10_wrongWhat) := goodIn_app (goodIn_of _ (by decide +kernel)) ggX10_turn_X10_wrongWhat
set_option maxRecDepth 20000 in
theorem ggX10_turn_X10_outside : GoodIn wsX10_turn wsX10_outside := goodIn_r _ [20] (by decide +kernel) (by decide +kernel)
set_option maxRecDepth 20000 in
theorem gX10_turn_X10_outside : GoodIn wsX10_turn (va_wsS RX10 73 yX10_outside wsX10_outside) := goodIn_app (goodIn_of _ (by decide +kernel)) ggX10_turn_X10_outside
set_option maxRecDepth 20000 in
theorem ggX10_turn_X10_refused__ : GoodIn wsX10_turn wsX10_refused__ := goodIn_r _ [24, 25, 26, 7, 27, 28, 29, 30, 31, 32, 33, 34, 35, 36, 37, 38, 39, 40] (by decide +kernel) (by decide +kernel)
set_option maxRecDepth 20000 in
theorem gX10_turn_X10_refused__ : GoodIn wsX10_turn (wsV RX10 141 RX10 yX10_refused__ wsX10_refused__) := goodIn_app (goodIn_of _ (by decide +kernel)) ggX10_turn_X10_refused__
theorem dX10_turn_0 : decode cX10_turn 0 = .ok (.aload_n 0, 1) := by decide +kernel
theorem dX10_turn_1 : decode cX10_turn 1 = .ok (.aload_n 0, 1) := by decide +kernel
theorem dX10_turn_2 : decode cX10_turn 2 = .ok (.iload_n 1, 1) := by decide +kernel
theorem dX10_turn_3 : decode cX10_turn 3 = .ok (.invokevirtual 100, 3) := by decide +kernel
theorem dX10_turn_6 : decode cX10_turn 6 = .ok (.iload_n 2, 1) := by decide +kernel
theorem dX10_turn_7 : decode cX10_turn 7 = .ok (.iconst 5, 1) := by decide +kernel
theorem dX10_turn_8 : decode cX10_turn 8 = .ok (.invokestatic 103, 3) := by decide +kernel
theorem dX10_turn_11 : decode cX10_turn 11 = .ok (.iload_n 3, 1) := by decide +kernel
theorem dX10_turn_12 : decode cX10_turn 12 = .ok (.iconst 0, 1) := by decide +kernel
theorem dX10_turn_13 : decode cX10_turn 13 = .ok (.bipush 9, 2) := by decide +kernel
theorem dX10_turn_15 : decode cX10_turn 15 = .ok (.invokestatic 73, 3) := by decide +kernel
theorem dX10_turn_18 : decode cX10_turn 18 = .ok (.invokevirtual 141, 3) := by decide +kernel
theorem dX10_turn_21 : decode cX10_turn 21 = .ok (.istore 4, 2) := by decide +kernel
theorem dX10_turn_23 : decode cX10_turn 23 = .ok (.iload 4, 2) := by decide +kernel
theorem dX10_turn_25 : decode cX10_turn 25 = .ok (.ifCond .eq 6, 3) := by decide +kernel
theorem dX10_turn_28 : decode cX10_turn 28 = .ok (.iload 4, 2) := by decide +kernel
theorem dX10_turn_30 : decode cX10_turn 30 = .ok (.ireturn, 1) := by decide +kernel
theorem dX10_turn_31 : decode cX10_turn 31 = .ok (.bipush 10, 2) := by decide +kernel
theorem dX10_turn_33 : decode cX10_turn 33 = .ok (.aload_n 0, 1) := by decide +kernel
theorem dX10_turn_34 : decode cX10_turn 34 = .ok (.getfield 32, 3) := by decide +kernel
theorem dX10_turn_37 : decode cX10_turn 37 = .ok (.getfield 106, 3) := by decide +kernel
theorem dX10_turn_40 : decode cX10_turn 40 = .ok (.iload_n 1, 1) := by decide +kernel
theorem dX10_turn_41 : decode cX10_turn 41 = .ok (.iaload, 1) := by decide +kernel
theorem dX10_turn_42 : decode cX10_turn 42 = .ok (.imul, 1) := by decide +kernel
theorem dX10_turn_43 : decode cX10_turn 43 = .ok (.aload_n 0, 1) := by decide +kernel
theorem dX10_turn_44 : decode cX10_turn 44 = .ok (.getfield 32, 3) := by decide +kernel
theorem dX10_turn_47 : decode cX10_turn 47 = .ok (.getfield 109, 3) := by decide +kernel
theorem dX10_turn_50 : decode cX10_turn 50 = .ok (.iload_n 1, 1) := by decide +kernel
theorem dX10_turn_51 : decode cX10_turn 51 = .ok (.iaload, 1) := by decide +kernel
theorem dX10_turn_52 : decode cX10_turn 52 = .ok (.iadd, 1) := by decide +kernel
theorem dX10_turn_53 : decode cX10_turn 53 = .ok (.istore 5, 2) := by decide +kernel
theorem dX10_turn_55 : decode cX10_turn 55 = .ok (.aload_n 0, 1) := by decide +kernel
theorem dX10_turn_56 : decode cX10_turn 56 = .ok (.getfield 32, 3) := by decide +kernel
theorem dX10_turn_59 : decode cX10_turn 59 = .ok (.getfield 106, 3) := by decide +kernel
theorem dX10_turn_62 : decode cX10_turn 62 = .ok (.iload_n 1, 1) := by decide +kernel
theorem dX10_turn_63 : decode cX10_turn 63 = .ok (.iload_n 2, 1) := by decide +kernel
theorem dX10_turn_64 : decode cX10_turn 64 = .ok (.iastore, 1) := by decide +kernel
theorem dX10_turn_65 : decode cX10_turn 65 = .ok (.aload_n 0, 1) := by decide +kernel
theorem dX10_turn_66 : decode cX10_turn 66 = .ok (.getfield 32, 3) := by decide +kernel
theorem dX10_turn_69 : decode cX10_turn 69 = .ok (.getfield 109, 3) := by decide +kernel
theorem dX10_turn_72 : decode cX10_turn 72 = .ok (.iload_n 1, 1) := by decide +kernel
theorem dX10_turn_73 : decode cX10_turn 73 = .ok (.iload_n 3, 1) := by decide +kernel
theorem dX10_turn_74 : decode cX10_turn 74 = .ok (.iastore, 1) := by decide +kernel
theorem dX10_turn_75 : decode cX10_turn 75 = .ok (.iload 5, 2) := by decide +kernel
theorem dX10_turn_77 : decode cX10_turn 77 = .ok (.ireturn, 1) := by decide +kernel
set_option maxRecDepth 20000 in
theorem ggX10_weeks_X10_outside : GoodIn wsX10_weeks wsX10_outside := goodIn_r _ [10] (by decide +kernel) (by decide +kernel)
set_option maxRecDepth 20000 in
theorem gX10_weeks_X10_outside : GoodIn wsX10_weeks (va_wsS RX10 73 yX10_outside wsX10_outside) := goodIn_app (goodIn_of _ (by decide +kernel)) ggX10_weeks_X10_outside
set_option maxRecDepth 20000 in
theorem ggX10_weeks_X10_refused : GoodIn wsX10_weeks wsX10_refused := goodIn_r _ [14, 15, 16, 17, 9, 18, 19, 134, 135, 136, 137, 138, 139, 140, 141] (by decide +kernel) (by decide +kernel)
set_option maxRecDepth 20000 in
theorem gX10_weeks_X10_refused : GoodIn wsX10_weeks (wsV RX10 129 RX10 yX10_refused wsX10_refused) := goodIn_app (goodIn_of _ (by decide +kernel)) ggX10_weeks_X10_refused
set_option maxRecDepth 20000 in
theorem ggX10_weeks_X8_passWeeks : GoodIn wsX10_weeks wsX8_passWeeks := goodIn_r _ [24, 25, 26, 27, 23, 28, 29, 30, 31, 32, 33, 34, 35, 36, 37, 38, 39, 40, 41, 42, 43, 44, 45, 46, 47, 48, 49, 50, 51, 52, 53, 54, 55, 56, 57, 58, 59, 60, 61, 62, 63, 64, 65, 66, 67, 68, 69, 70, 71, 72, 73, 74, 75, 76, 77, 78, 79, 80, 81, 4, 5, 6, 82, 83, 84, 85, 86, 87, 88, 89, 90, 91, 92, 93, 94, 95, 96, 97, 98, 99, 100, 101, 102, 103, 104, 105, 106, 107, 108, 109, 110, 111, 112, 113, 114, 115, 116, 117, 118, 142, 143, 144, 145, 146, 147, 148, 149, 150] (by decide +kernel) (by decide +kernel)
set_option maxRecDepth 20000 in
theorem gX10_weeks_X8_passWeeks : GoodIn wsX10_weeks (wsV RX10 170 RX8 yX8_passWeeks wsX8_passWeeks) := goodIn_app (goodIn_of _ (by decide +kernel)) ggX10_weeks_X8_passWeeks
set_option maxRecDepth 20000 in
theorem ggX10_weeks_X8_countHere : GoodIn wsX10_weeks wsX8_countHere := goodIn_r _ [122, 123, 124, 125, 23, 126, 30, 31, 127, 128, 129, 130, 131, 132, 133, 142, 143, 144, 145, 146, 147, 148, 149, 150] (by decide +kernel) (by decide +kernel)
set_option maxRecDepth 20000 in
theorem gX10_weeks_X8_countHere : GoodIn wsX10_weeks (wsV RX10 154 RX8 yX8_countHere wsX8_countHere) := goodIn_app (goodIn_of _ (by decide +kernel)) ggX10_weeks_X8_countHere
theorem dX10_weeks_0 : decode cX10_weeks 0 = .ok (.aload_n 0, 1) := by decide +kernel
theorem dX10_weeks_1 : decode cX10_weeks 1 = .ok (.iload_n 1, 1) := by decide +kernel
theorem dX10_weeks_2 : decode cX10_weeks 2 = .ok (.iconst 1, 1) := by decide +kernel
theorem dX10_weeks_3 : decode cX10_weeks 3 = .ok (.bipush 60, 2) := by decide +kernel
theorem dX10_weeks_5 : decode cX10_weeks 5 = .ok (.sipush 999, 3) := by decide +kernel
theorem dX10_weeks_8 : decode cX10_weeks 8 = .ok (.aload_n 0, 1) := by decide +kernel
theorem dX10_weeks_9 : decode cX10_weeks 9 = .ok (.getfield 32, 3) := by decide +kernel
theorem dX10_weeks_12 : decode cX10_weeks 12 = .ok (.getfield 162, 3) := by decide +kernel
theorem dX10_weeks_15 : decode cX10_weeks 15 = .ok (.isub, 1) := by decide +kernel
theorem dX10_weeks_16 : decode cX10_weeks 16 = .ok (.invokestatic 165, 3) := by decide +kernel
theorem dX10_weeks_19 : decode cX10_weeks 19 = .ok (.invokestatic 73, 3) := by decide +kernel
theorem dX10_weeks_22 : decode cX10_weeks 22 = .ok (.invokevirtual 129, 3) := by decide +kernel
theorem dX10_weeks_25 : decode cX10_weeks 25 = .ok (.istore_n 2, 1) := by decide +kernel
theorem dX10_weeks_26 : decode cX10_weeks 26 = .ok (.iload_n 2, 1) := by decide +kernel
theorem dX10_weeks_27 : decode cX10_weeks 27 = .ok (.ifCond .eq 5, 3) := by decide +kernel
theorem dX10_weeks_30 : decode cX10_weeks 30 = .ok (.iload_n 2, 1) := by decide +kernel
theorem dX10_weeks_31 : decode cX10_weeks 31 = .ok (.ireturn, 1) := by decide +kernel
theorem dX10_weeks_32 : decode cX10_weeks 32 = .ok (.aload_n 0, 1) := by decide +kernel
theorem dX10_weeks_33 : decode cX10_weeks 33 = .ok (.getfield 32, 3) := by decide +kernel
theorem dX10_weeks_36 : decode cX10_weeks 36 = .ok (.iload_n 1, 1) := by decide +kernel
theorem dX10_weeks_37 : decode cX10_weeks 37 = .ok (.invokevirtual 170, 3) := by decide +kernel
theorem dX10_weeks_40 : decode cX10_weeks 40 = .ok (.aload_n 0, 1) := by decide +kernel
theorem dX10_weeks_41 : decode cX10_weeks 41 = .ok (.getfield 32, 3) := by decide +kernel
theorem dX10_weeks_44 : decode cX10_weeks 44 = .ok (.invokevirtual 154, 3) := by decide +kernel
theorem dX10_weeks_47 : decode cX10_weeks 47 = .ok (.ireturn, 1) := by decide +kernel
set_option maxRecDepth 20000 in
theorem ggX10_memoryThen_X10_notTwo : GoodIn wsX10_memoryThen wsX10_notTwo := goodIn_r _ [6, 7, 8, 9, 10, 11, 12, 13, 14, 15, 16, 17, 156, 157, 158, 159, 160, 161, 162, 163, 164, 165, 166, 167, 168, 169, 170, 171, 172] (by decide +kernel) (by decide +kernel)
set_option maxRecDepth 20000 in
theorem gX10_memoryThen_X10_notTwo : GoodIn wsX10_memoryThen (wsV RX10 126 RX10 yX10_notTwo wsX10_notTwo) := goodIn_app (goodIn_of _ (by decide +kernel)) ggX10_memoryThen_X10_notTwo
set_option maxRecDepth 20000 in
theorem ggX10_memoryThen_X10_outside : GoodIn wsX10_memoryThen wsX10_outside := goodIn_r _ [20] (by decide +kernel) (by decide +kernel)
set_option maxRecDepth 20000 in
theorem gX10_memoryThen_X10_outside : GoodIn wsX10_memoryThen (va_wsS RX10 73 yX10_outside wsX10_outside) := goodIn_app (goodIn_of _ (by decide +kernel)) ggX10_memoryThen_X10_outside
set_option maxRecDepth 20000 in
theorem ggX10_memoryThen_X10_refused_ : GoodIn wsX10_memoryThen wsX10_refused_ := goodIn_r _ [24, 25, 26, 5, 27, 28, 29, 30, 31, 32, 156, 157, 158, 159, 160, 161, 162, 163] (by decide +kernel) (by decide +kernel)
set_option maxRecDepth 20000 in
theorem gX10_memoryThen_X10_refused_ : GoodIn wsX10_memoryThen (wsV RX10 81 RX10 yX10_refused_ wsX10_refused_) := goodIn_app (goodIn_of _ (by decide +kernel)) ggX10_memoryThen_X10_refused_
set_option maxRecDepth 20000 in
theorem ggX10_memoryThen_X3_after : GoodIn wsX10_memoryThen wsX3_after := goodIn_r _ [37, 38, 39, 40, 41, 36, 42, 43, 44, 45, 46, 11, 47, 48, 49, 50, 51, 52, 53, 54, 55, 56, 17, 57, 58, 59, 60, 61, 62, 63, 64, 65, 66, 67, 68, 69, 70, 71, 72, 73, 74, 75, 76, 77, 78, 79, 80, 81, 82, 83, 84, 85, 86, 87, 88, 89, 90, 91, 92, 93, 94, 95, 96, 97, 98, 99, 100, 101, 102, 103, 104, 105, 106, 107, 108, 109, 110, 111, 112, 113, 114, 115, 116, 117, 118, 119, 120, 121, 122, 123, 124, 125, 126, 127, 128, 129, 130, 131, 132, 133, 134, 135, 136, 137, 138, 139, 140, 141, 142, 143, 144, 145, 146, 147, 148, 149, 150, 151, 173, 174, 175, 176, 177, 178, 179, 164, 165, 166, 167, 168, 169, 170, 171, 172] (by decide +kernel) (by decide +kernel)
set_option maxRecDepth 20000 in
theorem gX10_memoryThen_X3_after : GoodIn wsX10_memoryThen (wsV RX10 173 RX3 yX3_after wsX3_after) := goodIn_app (goodIn_of _ (by decide +kernel)) ggX10_memoryThen_X3_after
set_option maxRecDepth 20000 in
theorem ggX10_memoryThen_X8_memoryOf : GoodIn wsX10_memoryThen wsX8_memoryOf := goodIn_r _ [155, 56, 164, 165, 166, 167, 168, 169, 170, 171, 172] (by decide +kernel) (by decide +kernel)
set_option maxRecDepth 20000 in
theorem gX10_memoryThen_X8_memoryOf : GoodIn wsX10_memoryThen (wsV RX10 131 RX8 yX8_memoryOf wsX8_memoryOf) := goodIn_app (goodIn_of _ (by decide +kernel)) ggX10_memoryThen_X8_memoryOf
theorem dX10_memoryThen_0 : decode cX10_memoryThen 0 = .ok (.aload_n 0, 1) := by decide +kernel
theorem dX10_memoryThen_1 : decode cX10_memoryThen 1 = .ok (.aload_n 0, 1) := by decide +kernel
theorem dX10_memoryThen_2 : decode cX10_memoryThen 2 = .ok (.iload_n 1, 1) := by decide +kernel
theorem dX10_memoryThen_3 : decode cX10_memoryThen 3 = .ok (.iload_n 2, 1) := by decide +kernel
theorem dX10_memoryThen_4 : decode cX10_memoryThen 4 = .ok (.invokevirtual 126, 3) := by decide +kernel
theorem dX10_memoryThen_7 : decode cX10_memoryThen 7 = .ok (.iload_n 3, 1) := by decide +kernel
theorem dX10_memoryThen_8 : decode cX10_memoryThen 8 = .ok (.iconst 0, 1) := by decide +kernel
theorem dX10_memoryThen_9 : decode cX10_memoryThen 9 = .ok (.bipush 99, 2) := by decide +kernel
theorem dX10_memoryThen_11 : decode cX10_memoryThen 11 = .ok (.invokestatic 73, 3) := by decide +kernel
theorem dX10_memoryThen_14 : decode cX10_memoryThen 14 = .ok (.invokevirtual 81, 3) := by decide +kernel
theorem dX10_memoryThen_17 : decode cX10_memoryThen 17 = .ok (.istore 4, 2) := by decide +kernel
theorem dX10_memoryThen_19 : decode cX10_memoryThen 19 = .ok (.iload 4, 2) := by decide +kernel
theorem dX10_memoryThen_21 : decode cX10_memoryThen 21 = .ok (.ifCond .eq 8, 3) := by decide +kernel
theorem dX10_memoryThen_24 : decode cX10_memoryThen 24 = .ok (.iload 4, 2) := by decide +kernel
theorem dX10_memoryThen_26 : decode cX10_memoryThen 26 = .ok (.goto 16, 3) := by decide +kernel
theorem dX10_memoryThen_29 : decode cX10_memoryThen 29 = .ok (.aload_n 0, 1) := by decide +kernel
theorem dX10_memoryThen_30 : decode cX10_memoryThen 30 = .ok (.getfield 47, 3) := by decide +kernel
theorem dX10_memoryThen_33 : decode cX10_memoryThen 33 = .ok (.iload_n 3, 1) := by decide +kernel
theorem dX10_memoryThen_34 : decode cX10_memoryThen 34 = .ok (.invokevirtual 173, 3) := by decide +kernel
theorem dX10_memoryThen_37 : decode cX10_memoryThen 37 = .ok (.iload_n 1, 1) := by decide +kernel
theorem dX10_memoryThen_38 : decode cX10_memoryThen 38 = .ok (.iload_n 2, 1) := by decide +kernel
theorem dX10_memoryThen_39 : decode cX10_memoryThen 39 = .ok (.invokevirtual 131, 3) := by decide +kernel
theorem dX10_memoryThen_42 : decode cX10_memoryThen 42 = .ok (.ireturn, 1) := by decide +kernel
set_option maxRecDepth 20000 in
theorem ggX10_knownThen_X10_nobody : GoodIn wsX10_knownThen wsX10_nobody := goodIn_r _ [6, 7, 8, 9, 10, 11, 12, 13, 149, 150, 151, 152, 153, 154, 155, 156, 157, 158, 159, 160, 161, 162, 163, 164, 165] (by decide +kernel) (by decide +kernel)
set_option maxRecDepth 20000 in
theorem gX10_knownThen_X10_nobody : GoodIn wsX10_knownThen (wsV RX10 100 RX10 yX10_nobody wsX10_nobody) := goodIn_app (goodIn_of _ (by decide +kernel)) ggX10_knownThen_X10_nobody
set_option maxRecDepth 20000 in
theorem ggX10_knownThen_X10_outside : GoodIn wsX10_knownThen wsX10_outside := goodIn_r _ [16] (by decide +kernel) (by decide +kernel)
set_option maxRecDepth 20000 in
theorem gX10_knownThen_X10_outside : GoodIn wsX10_knownThen (va_wsS RX10 73 yX10_outside wsX10_outside) := goodIn_app (goodIn_of _ (by decide +kernel)) ggX10_knownThen_X10_outside
set_option maxRecDepth 20000 in
theorem ggX10_knownThen_X10_refused_ : GoodIn wsX10_knownThen wsX10_refused_ := goodIn_r _ [20, 21, 22, 5, 23, 24, 25, 26, 27, 28, 149, 150, 151, 152, 153, 154, 155, 156] (by decide +kernel) (by decide +kernel)
set_option maxRecDepth 20000 in
theorem gX10_knownThen_X10_refused_ : GoodIn wsX10_knownThen (wsV RX10 81 RX10 yX10_refused_ wsX10_refused_) := goodIn_app (goodIn_of _ (by decide +kernel)) ggX10_knownThen_X10_refused_
set_option maxRecDepth 20000 in
theorem ggX10_knownThen_X3_after : GoodIn wsX10_knownThen wsX3_after := goodIn_r _ [33, 34, 35, 36, 37, 32, 38, 39, 40, 41, 42, 11, 43, 44, 45, 46, 47, 48, 49, 50, 51, 52, 13, 53, 54, 55, 56, 57, 58, 59, 60, 61, 62, 63, 64, 65, 66, 67, 68, 69, 70, 71, 72, 73, 74, 75, 76, 77, 78, 79, 80, 81, 82, 83, 84, 85, 86, 87, 88, 89, 90, 91, 92, 93, 94, 95, 96, 97, 98, 99, 100, 101, 102, 103, 104, 105, 106, 107, 108, 109, 110, 111, 112, 113, 114, 115, 116, 117, 118, 119, 120, 121, 122, 123, 124, 125, 126, 127, 128, 129, 130, 131, 132, 133, 134, 135, 136, 137, 138, 139, 140, 141, 142, 143, 144, 145, 146, 147, 166, 167, 168, 169, 170, 171, 172, 157, 158, 159, 160, 161, 162, 163, 164, 165] (by decide +kernel) (by decide +kernel)
set_option maxRecDepth 20000 in
theorem gX10_knownThen_X3_after : GoodIn wsX10_knownThen (wsV RX10 173 RX3 yX3_after wsX3_after) := goodIn_app (goodIn_of _ (by decide +kernel)) ggX10_knownThen_X3_after
set_option maxRecDepth 20000 in
theorem ggX10_knownThen_X8_knownOf : GoodIn wsX10_knownThen wsX8_knownOf := goodIn_r _ [139, 13, 51, 52, 157, 158, 159, 160, 161, 162, 163, 164, 165] (by decide +kernel) (by decide +kernel)
set_option maxRecDepth 20000 in
theorem gX10_knownThen_X8_knownOf : GoodIn wsX10_knownThen (wsV RX10 119 RX8 yX8_knownOf wsX8_knownOf) := goodIn_app (goodIn_of _ (by decide +kernel)) ggX10_knownThen_X8_knownOf
theorem dX10_knownThen_0 : decode cX10_knownThen 0 = .ok (.aload_n 0, 1) := by decide +kernel
theorem dX10_knownThen_1 : decode cX10_knownThen 1 = .ok (.aload_n 0, 1) := by decide +kernel
theorem dX10_knownThen_2 : decode cX10_knownThen 2 = .ok (.iload_n 1, 1) := by decide +kernel
theorem dX10_knownThen_3 : decode cX10_knownThen 3 = .ok (.invokevirtual 100, 3) := by decide +kernel
theorem dX10_knownThen_6 : decode cX10_knownThen 6 = .ok (.iload_n 2, 1) := by decide +kernel
theorem dX10_knownThen_7 : decode cX10_knownThen 7 = .ok (.iconst 0, 1) := by decide +kernel
theorem dX10_knownThen_8 : decode cX10_knownThen 8 = .ok (.bipush 99, 2) := by decide +kernel
theorem dX10_knownThen_10 : decode cX10_knownThen 10 = .ok (.invokestatic 73, 3) := by decide +kernel
theorem dX10_knownThen_13 : decode cX10_knownThen 13 = .ok (.invokevirtual 81, 3) := by decide +kernel
theorem dX10_knownThen_16 : decode cX10_knownThen 16 = .ok (.istore_n 3, 1) := by decide +kernel
theorem dX10_knownThen_17 : decode cX10_knownThen 17 = .ok (.iload_n 3, 1) := by decide +kernel
theorem dX10_knownThen_18 : decode cX10_knownThen 18 = .ok (.ifCond .eq 7, 3) := by decide +kernel
theorem dX10_knownThen_21 : decode cX10_knownThen 21 = .ok (.iload_n 3, 1) := by decide +kernel
theorem dX10_knownThen_22 : decode cX10_knownThen 22 = .ok (.goto 15, 3) := by decide +kernel
theorem dX10_knownThen_25 : decode cX10_knownThen 25 = .ok (.aload_n 0, 1) := by decide +kernel
theorem dX10_knownThen_26 : decode cX10_knownThen 26 = .ok (.getfield 47, 3) := by decide +kernel
theorem dX10_knownThen_29 : decode cX10_knownThen 29 = .ok (.iload_n 2, 1) := by decide +kernel
theorem dX10_knownThen_30 : decode cX10_knownThen 30 = .ok (.invokevirtual 173, 3) := by decide +kernel
theorem dX10_knownThen_33 : decode cX10_knownThen 33 = .ok (.iload_n 1, 1) := by decide +kernel
theorem dX10_knownThen_34 : decode cX10_knownThen 34 = .ok (.invokevirtual 119, 3) := by decide +kernel
theorem dX10_knownThen_37 : decode cX10_knownThen 37 = .ok (.ireturn, 1) := by decide +kernel
set_option maxRecDepth 20000 in
theorem ggX10_gone_X10_outside : GoodIn wsX10_gone wsX10_outside := goodIn_r _ [5] (by decide +kernel) (by decide +kernel)
set_option maxRecDepth 20000 in
theorem gX10_gone_X10_outside : GoodIn wsX10_gone (va_wsS RX10 73 yX10_outside wsX10_outside) := goodIn_app (goodIn_of _ (by decide +kernel)) ggX10_gone_X10_outside
set_option maxRecDepth 20000 in
theorem ggX10_gone_X10_refused : GoodIn wsX10_gone wsX10_refused := goodIn_r _ [9, 10, 11, 12, 4, 13, 14, 144, 145, 146, 147, 148, 149, 150, 151] (by decide +kernel) (by decide +kernel)
set_option maxRecDepth 20000 in
theorem gX10_gone_X10_refused : GoodIn wsX10_gone (wsV RX10 129 RX10 yX10_refused wsX10_refused) := goodIn_app (goodIn_of _ (by decide +kernel)) ggX10_gone_X10_refused
set_option maxRecDepth 20000 in
theorem ggX10_gone_X3_after : GoodIn wsX10_gone wsX3_after := goodIn_r _ [19, 20, 21, 22, 23, 18, 24, 25, 26, 27, 28, 29, 30, 31, 32, 33, 34, 35, 36, 37, 38, 39, 40, 41, 42, 43, 44, 45, 46, 47, 48, 49, 50, 51, 52, 53, 54, 55, 56, 57, 58, 59, 60, 61, 62, 63, 64, 65, 66, 67, 68, 69, 70, 71, 72, 73, 74, 75, 76, 77, 78, 79, 80, 81, 82, 83, 84, 85, 86, 87, 88, 89, 90, 91, 92, 93, 94, 95, 96, 97, 98, 99, 100, 101, 102, 103, 104, 105, 106, 107, 108, 109, 110, 111, 112, 113, 114, 115, 116, 117, 118, 119, 120, 121, 122, 123, 124, 125, 126, 127, 128, 129, 130, 131, 132, 133, 134, 135, 152, 153, 154, 155, 156, 157, 158, 159, 160, 161, 162, 163, 164, 165, 166, 167] (by decide +kernel) (by decide +kernel)
set_option maxRecDepth 20000 in
theorem gX10_gone_X3_after : GoodIn wsX10_gone (wsV RX10 173 RX3 yX3_after wsX3_after) := goodIn_app (goodIn_of _ (by decide +kernel)) ggX10_gone_X3_after
set_option maxRecDepth 20000 in
theorem ggX10_gone_X8_forgottenBits : GoodIn wsX10_gone wsX8_forgottenBits := goodIn_r _ [139, 40, 140, 141, 142, 29, 143, 38, 159, 160, 161, 162, 163, 164, 165, 166, 167] (by decide +kernel) (by decide +kernel)
set_option maxRecDepth 20000 in
theorem gX10_gone_X8_forgottenBits : GoodIn wsX10_gone (wsV RX10 177 RX8 yX8_forgottenBits wsX8_forgottenBits) := goodIn_app (goodIn_of _ (by decide +kernel)) ggX10_gone_X8_forgottenBits
theorem dX10_gone_0 : decode cX10_gone 0 = .ok (.aload_n 0, 1) := by decide +kernel
theorem dX10_gone_1 : decode cX10_gone 1 = .ok (.iload_n 1, 1) := by decide +kernel
theorem dX10_gone_2 : decode cX10_gone 2 = .ok (.iconst 0, 1) := by decide +kernel
theorem dX10_gone_3 : decode cX10_gone 3 = .ok (.bipush 99, 2) := by decide +kernel
theorem dX10_gone_5 : decode cX10_gone 5 = .ok (.invokestatic 73, 3) := by decide +kernel
theorem dX10_gone_8 : decode cX10_gone 8 = .ok (.invokevirtual 129, 3) := by decide +kernel
theorem dX10_gone_11 : decode cX10_gone 11 = .ok (.istore_n 2, 1) := by decide +kernel
theorem dX10_gone_12 : decode cX10_gone 12 = .ok (.iload_n 2, 1) := by decide +kernel
theorem dX10_gone_13 : decode cX10_gone 13 = .ok (.ifCond .eq 7, 3) := by decide +kernel
theorem dX10_gone_16 : decode cX10_gone 16 = .ok (.iload_n 2, 1) := by decide +kernel
theorem dX10_gone_17 : decode cX10_gone 17 = .ok (.goto 14, 3) := by decide +kernel
theorem dX10_gone_20 : decode cX10_gone 20 = .ok (.aload_n 0, 1) := by decide +kernel
theorem dX10_gone_21 : decode cX10_gone 21 = .ok (.getfield 47, 3) := by decide +kernel
theorem dX10_gone_24 : decode cX10_gone 24 = .ok (.iload_n 1, 1) := by decide +kernel
theorem dX10_gone_25 : decode cX10_gone 25 = .ok (.invokevirtual 173, 3) := by decide +kernel
theorem dX10_gone_28 : decode cX10_gone 28 = .ok (.invokevirtual 177, 3) := by decide +kernel
theorem dX10_gone_31 : decode cX10_gone 31 = .ok (.ireturn, 1) := by decide +kernel
set_option maxRecDepth 20000 in
theorem ggX10_goes_X10_nobody : GoodIn wsX10_goes wsX10_nobody := goodIn_r _ [6, 7, 8, 9, 10, 11, 12, 13, 145, 146, 147, 148, 149, 150, 151, 152, 153, 154, 155, 156, 157, 158, 159, 160, 161] (by decide +kernel) (by decide +kernel)
set_option maxRecDepth 20000 in
theorem gX10_goes_X10_nobody : GoodIn wsX10_goes (wsV RX10 100 RX10 yX10_nobody wsX10_nobody) := goodIn_app (goodIn_of _ (by decide +kernel)) ggX10_goes_X10_nobody
set_option maxRecDepth 20000 in
theorem ggX10_goes_X10_refused : GoodIn wsX10_goes wsX10_refused := goodIn_r _ [17, 18, 19, 20, 5, 21, 22, 145, 146, 147, 148, 149, 150, 151, 152] (by decide +kernel) (by decide +kernel)
set_option maxRecDepth 20000 in
theorem gX10_goes_X10_refused : GoodIn wsX10_goes (wsV RX10 129 RX10 yX10_refused wsX10_refused) := goodIn_app (goodIn_of _ (by decide +kernel)) ggX10_goes_X10_refused
set_option maxRecDepth 20000 in
theorem ggX10_goes_X3_untilForgotten : GoodIn wsX10_goes wsX3_untilForgotten := goodIn_r _ [27, 28, 29, 30, 31, 26, 32, 33, 34, 35, 36, 11, 37, 38, 39, 40, 41, 42, 43, 44, 45, 46, 13, 47, 48, 49, 50, 51, 52, 53, 54, 55, 56, 57, 58, 59, 60, 61, 62, 63, 64, 65, 66, 67, 68, 69, 70, 71, 72, 73, 74, 75, 76, 77, 78, 79, 80, 81, 82, 83, 84, 85, 86, 87, 88, 89, 90, 91, 92, 93, 94, 95, 96, 97, 98, 99, 100, 101, 102, 103, 104, 105, 106, 107, 108, 109, 110, 111, 112, 113, 114, 115, 116, 117, 118, 119, 120, 121, 122, 123, 124, 125, 126, 127, 128, 129, 130, 131, 132, 133, 134, 135, 136, 137, 138, 139, 140, 141, 162, 163, 164, 165, 166, 167, 168, 153, 154, 155, 156, 157, 158, 159, 160, 161] (by decide +kernel) (by decide +kernel)
set_option maxRecDepth 20000 in
theorem gX10_goes_X3_untilForgotten : GoodIn wsX10_goes (wsV RX10 180 RX3 yX3_untilForgotten wsX3_untilForgotten) := goodIn_app (goodIn_of _ (by decide +kernel)) ggX10_goes_X3_untilForgotten
set_option maxRecDepth 20000 in
theorem ggX10_goes_X10_noneIfNever : GoodIn wsX10_goes wsX10_noneIfNever := goodIn_r _ [144] (by decide +kernel) (by decide +kernel)
set_option maxRecDepth 20000 in
theorem gX10_goes_X10_noneIfNever : GoodIn wsX10_goes (va_wsS RX10 183 yX10_noneIfNever wsX10_noneIfNever) := goodIn_app (goodIn_of _ (by decide +kernel)) ggX10_goes_X10_noneIfNever
theorem dX10_goes_0 : decode cX10_goes 0 = .ok (.aload_n 0, 1) := by decide +kernel
theorem dX10_goes_1 : decode cX10_goes 1 = .ok (.aload_n 0, 1) := by decide +kernel
theorem dX10_goes_2 : decode cX10_goes 2 = .ok (.iload_n 1, 1) := by decide +kernel
theorem dX10_goes_3 : decode cX10_goes 3 = .ok (.invokevirtual 100, 3) := by decide +kernel
theorem dX10_goes_6 : decode cX10_goes 6 = .ok (.invokevirtual 129, 3) := by decide +kernel
theorem dX10_goes_9 : decode cX10_goes 9 = .ok (.istore_n 2, 1) := by decide +kernel
theorem dX10_goes_10 : decode cX10_goes 10 = .ok (.iload_n 2, 1) := by decide +kernel
theorem dX10_goes_11 : decode cX10_goes 11 = .ok (.ifCond .eq 7, 3) := by decide +kernel
theorem dX10_goes_14 : decode cX10_goes 14 = .ok (.iload_n 2, 1) := by decide +kernel
theorem dX10_goes_15 : decode cX10_goes 15 = .ok (.goto 14, 3) := by decide +kernel
theorem dX10_goes_18 : decode cX10_goes 18 = .ok (.aload_n 0, 1) := by decide +kernel
theorem dX10_goes_19 : decode cX10_goes 19 = .ok (.getfield 47, 3) := by decide +kernel
theorem dX10_goes_22 : decode cX10_goes 22 = .ok (.iload_n 1, 1) := by decide +kernel
theorem dX10_goes_23 : decode cX10_goes 23 = .ok (.invokevirtual 180, 3) := by decide +kernel
theorem dX10_goes_26 : decode cX10_goes 26 = .ok (.invokestatic 183, 3) := by decide +kernel
theorem dX10_goes_29 : decode cX10_goes 29 = .ok (.ireturn, 1) := by decide +kernel
set_option maxRecDepth 20000 in
theorem ggX10_next_X10_wrongWhat : GoodIn wsX10_next wsX10_wrongWhat := goodIn_r _ [7] (by decide +kernel) (by decide +kernel)
set_option maxRecDepth 20000 in
theorem gX10_next_X10_wrongWhat : GoodIn wsX10_next (va_wsS RX10 103 yX10_wrongWhat wsX10_wrongWhat) := goodIn_app (goodIn_of _ (by decide +kernel)) ggX10_next_X10_wrongWhat
set_option maxRecDepth 20000 in
theorem ggX10_next_X10_refused : GoodIn wsX10_next wsX10_refused := goodIn_r _ [11, 12, 13, 14, 6, 15, 16, 152, 153, 154, 155, 156, 157, 158, 159] (by decide +kernel) (by decide +kernel)
set_option maxRecDepth 20000 in
theorem gX10_next_X10_refused : GoodIn wsX10_next (wsV RX10 129 RX10 yX10_refused wsX10_refused) := goodIn_app (goodIn_of _ (by decide +kernel)) ggX10_next_X10_refused
set_option maxRecDepth 20000 in
theorem ggX10_next_X3_firstForgotten : GoodIn wsX10_next wsX3_firstForgotten := goodIn_r _ [21, 22, 23, 24, 25, 26, 27, 28, 20, 29, 30, 31, 32, 33, 34, 35, 36, 37, 38, 39, 40, 41, 42, 43, 44, 45, 46, 47, 48, 49, 50, 51, 52, 53, 54, 55, 56, 57, 58, 59, 60, 61, 62, 63, 64, 65, 66, 67, 68, 69, 70, 71, 72, 73, 74, 75, 76, 77, 78, 79, 80, 81, 82, 83, 84, 85, 86, 87, 88, 89, 90, 91, 92, 93, 94, 95, 96, 97, 98, 99, 100, 101, 102, 103, 104, 105, 106, 107, 108, 109, 110, 111, 112, 113, 114, 115, 116, 117, 118, 119, 120, 121, 122, 123, 124, 125, 126, 127, 128, 129, 130, 131, 132, 133, 134, 135, 136, 137, 138, 139, 140, 141, 142, 143, 169, 170, 171, 172, 173, 174, 175, 160, 161, 162, 163, 164, 165, 166, 167, 168] (by decide +kernel) (by decide +kernel)
set_option maxRecDepth 20000 in
theorem gX10_next_X3_firstForgotten : GoodIn wsX10_next (wsV RX10 186 RX3 yX3_firstForgotten wsX3_firstForgotten) := goodIn_app (goodIn_of _ (by decide +kernel)) ggX10_next_X3_firstForgotten
set_option maxRecDepth 20000 in
theorem ggX10_next_X3_untilFirstForgotten : GoodIn wsX10_next wsX3_untilFirstForgotten := goodIn_r _ [29, 22, 25, 30, 31, 32, 20, 33, 34, 35, 36, 37, 38, 39, 40, 41, 42, 43, 44, 45, 46, 47, 48, 49, 50, 51, 52, 53, 54, 55, 56, 57, 58, 59, 60, 61, 62, 63, 64, 65, 66, 67, 68, 69, 70, 71, 72, 73, 74, 75, 76, 77, 78, 79, 80, 81, 82, 83, 84, 85, 86, 87, 88, 89, 90, 91, 92, 93, 94, 95, 96, 97, 98, 99, 100, 101, 102, 103, 104, 105, 106, 107, 108, 109, 110, 111, 112, 113, 114, 115, 116, 117, 118, 119, 120, 121, 122, 123, 124, 125, 126, 127, 128, 129, 130, 131, 132, 133, 134, 135, 136, 137, 138, 139, 140, 141, 142, 143, 169, 170, 171, 172, 173, 174, 175, 160, 161, 162, 163, 164, 165, 166, 167, 168] (by decide +kernel) (by decide +kernel)
set_option maxRecDepth 20000 in
theorem gX10_next_X3_untilFirstForgotten : GoodIn wsX10_next (wsV RX10 189 RX3 yX3_untilFirstForgotten wsX3_untilFirstForgotten) := goodIn_app (goodIn_of _ (by decide +kernel)) ggX10_next_X3_untilFirstForgotten
set_option maxRecDepth 20000 in
theorem ggX10_next_X10_noneIfNever : GoodIn wsX10_next wsX10_noneIfNever := goodIn_r _ [147] (by decide +kernel) (by decide +kernel)
set_option maxRecDepth 20000 in
theorem gX10_next_X10_noneIfNever : GoodIn wsX10_next (va_wsS RX10 183 yX10_noneIfNever wsX10_noneIfNever) := goodIn_app (goodIn_of _ (by decide +kernel)) ggX10_next_X10_noneIfNever
set_option maxRecDepth 20000 in
theorem ggX10_next_X3_untilEmpty : GoodIn wsX10_next wsX3_untilEmpty := goodIn_r _ [151, 25, 30, 31, 32, 20, 33, 22, 34, 35, 36, 37, 38, 39, 40, 41, 42, 43, 44, 45, 46, 47, 48, 49, 50, 51, 52, 53, 54, 55, 56, 57, 58, 59, 60, 61, 62, 63, 64, 65, 66, 67, 68, 69, 70, 71, 72, 73, 74, 75, 76, 77, 78, 79, 80, 81, 82, 83, 84, 85, 86, 87, 88, 89, 90, 91, 92, 93, 94, 95, 96, 97, 98, 99, 100, 101, 102, 103, 104, 105, 106, 107, 108, 109, 110, 111, 112, 113, 114, 115, 116, 117, 118, 119, 120, 121, 122, 123, 124, 125, 126, 127, 128, 129, 130, 131, 132, 133, 134, 135, 136, 137, 138, 139, 140, 141, 142, 143, 169, 170, 171, 172, 173, 174, 175, 160, 161, 162, 163, 164, 165, 166, 167, 168] (by decide +kernel) (by decide +kernel)
set_option maxRecDepth 20000 in
theorem gX10_next_X3_untilEmpty : GoodIn wsX10_next (wsV RX10 192 RX3 yX3_untilEmpty wsX3_untilEmpty) := goodIn_app (goodIn_of _ (by decide +kernel)) ggX10_next_X3_untilEmpty
theorem dX10_next_0 : decode cX10_next 0 = .ok (.aload_n 0, 1) := by decide +kernel
theorem dX10_next_1 : decode cX10_next 1 = .ok (.iload_n 1, 1) := by decide +kernel
theorem dX10_next_2 : decode cX10_next 2 = .ok (.iconst 3, 1) := by decide +kernel
theorem dX10_next_3 : decode cX10_next 3 = .ok (.invokestatic 103, 3) := by decide +kernel
theorem dX10_next_6 : decode cX10_next 6 = .ok (.invokevirtual 129, 3) := by decide +kernel
theorem dX10_next_9 : decode cX10_next 9 = .ok (.istore_n 2, 1) := by decide +kernel
theorem dX10_next_10 : decode cX10_next 10 = .ok (.iload_n 2, 1) := by decide +kernel
theorem dX10_next_11 : decode cX10_next 11 = .ok (.ifCond .eq 5, 3) := by decide +kernel
theorem dX10_next_14 : decode cX10_next 14 = .ok (.iload_n 2, 1) := by decide +kernel
theorem dX10_next_15 : decode cX10_next 15 = .ok (.ireturn, 1) := by decide +kernel
theorem dX10_next_16 : decode cX10_next 16 = .ok (.iload_n 1, 1) := by decide +kernel
theorem dX10_next_17 : decode cX10_next 17 = .ok (.tableswitch 57 0 2 #[27, 35, 46], 27) := by decide +kernel
theorem dX10_next_44 : decode cX10_next 44 = .ok (.aload_n 0, 1) := by decide +kernel
theorem dX10_next_45 : decode cX10_next 45 = .ok (.getfield 47, 3) := by decide +kernel
theorem dX10_next_48 : decode cX10_next 48 = .ok (.invokevirtual 186, 3) := by decide +kernel
theorem dX10_next_51 : decode cX10_next 51 = .ok (.ireturn, 1) := by decide +kernel
theorem dX10_next_52 : decode cX10_next 52 = .ok (.aload_n 0, 1) := by decide +kernel
theorem dX10_next_53 : decode cX10_next 53 = .ok (.getfield 47, 3) := by decide +kernel
theorem dX10_next_56 : decode cX10_next 56 = .ok (.invokevirtual 189, 3) := by decide +kernel
theorem dX10_next_59 : decode cX10_next 59 = .ok (.invokestatic 183, 3) := by decide +kernel
theorem dX10_next_62 : decode cX10_next 62 = .ok (.ireturn, 1) := by decide +kernel
theorem dX10_next_63 : decode cX10_next 63 = .ok (.aload_n 0, 1) := by decide +kernel
theorem dX10_next_64 : decode cX10_next 64 = .ok (.getfield 47, 3) := by decide +kernel
theorem dX10_next_67 : decode cX10_next 67 = .ok (.invokevirtual 192, 3) := by decide +kernel
theorem dX10_next_70 : decode cX10_next 70 = .ok (.invokestatic 183, 3) := by decide +kernel
theorem dX10_next_73 : decode cX10_next 73 = .ok (.ireturn, 1) := by decide +kernel
theorem dX10_next_74 : decode cX10_next 74 = .ok (.bipush 10, 2) := by decide +kernel
theorem dX10_next_76 : decode cX10_next 76 = .ok (.aload_n 0, 1) := by decide +kernel
theorem dX10_next_77 : decode cX10_next 77 = .ok (.getfield 32, 3) := by decide +kernel
theorem dX10_next_80 : decode cX10_next 80 = .ok (.getfield 162, 3) := by decide +kernel
theorem dX10_next_83 : decode cX10_next 83 = .ok (.bipush 10, 2) := by decide +kernel
theorem dX10_next_85 : decode cX10_next 85 = .ok (.irem, 1) := by decide +kernel
theorem dX10_next_86 : decode cX10_next 86 = .ok (.isub, 1) := by decide +kernel
theorem dX10_next_87 : decode cX10_next 87 = .ok (.ireturn, 1) := by decide +kernel
set_option maxRecDepth 20000 in
theorem ggX10_least_X10_wrongWhat : GoodIn wsX10_least wsX10_wrongWhat := goodIn_r _ [5] (by decide +kernel) (by decide +kernel)
set_option maxRecDepth 20000 in
theorem gX10_least_X10_wrongWhat : GoodIn wsX10_least (va_wsS RX10 103 yX10_wrongWhat wsX10_wrongWhat) := goodIn_app (goodIn_of _ (by decide +kernel)) ggX10_least_X10_wrongWhat
set_option maxRecDepth 20000 in
theorem ggX10_least_X10_refused : GoodIn wsX10_least wsX10_refused := goodIn_r _ [9, 10, 11, 12, 4, 13, 14, 53, 54, 55, 56, 57, 58, 59, 60] (by decide +kernel) (by decide +kernel)
set_option maxRecDepth 20000 in
theorem gX10_least_X10_refused : GoodIn wsX10_least (wsV RX10 129 RX10 yX10_refused wsX10_refused) := goodIn_app (goodIn_of _ (by decide +kernel)) ggX10_least_X10_refused
set_option maxRecDepth 20000 in
theorem ggX10_least_X8_leastKnown : GoodIn wsX10_least wsX8_leastKnown := goodIn_r _ [19, 20, 21, 22, 23, 24, 25, 26, 27, 28, 29, 30, 31, 32, 33, 34, 35, 36, 37, 38, 39, 40, 41, 42, 43, 44, 45, 46, 18, 47, 48, 61, 62, 63, 64, 65, 66, 67, 68, 69] (by decide +kernel) (by decide +kernel)
set_option maxRecDepth 20000 in
theorem gX10_least_X8_leastKnown : GoodIn wsX10_least (wsV RX10 195 RX8 yX8_leastKnown wsX8_leastKnown) := goodIn_app (goodIn_of _ (by decide +kernel)) ggX10_least_X8_leastKnown
set_option maxRecDepth 20000 in
theorem ggX10_least_X8_bestKnown : GoodIn wsX10_least wsX8_bestKnown := goodIn_r _ [52, 20, 21, 44, 45, 46, 18, 47, 48, 61, 62, 63, 64, 65, 66, 67, 68, 69] (by decide +kernel) (by decide +kernel)
set_option maxRecDepth 20000 in
theorem gX10_least_X8_bestKnown : GoodIn wsX10_least (wsV RX10 198 RX8 yX8_bestKnown wsX8_bestKnown) := goodIn_app (goodIn_of _ (by decide +kernel)) ggX10_least_X8_bestKnown
theorem dX10_least_0 : decode cX10_least 0 = .ok (.aload_n 0, 1) := by decide +kernel
theorem dX10_least_1 : decode cX10_least 1 = .ok (.iload_n 1, 1) := by decide +kernel
theorem dX10_least_2 : decode cX10_least 2 = .ok (.iconst 1, 1) := by decide +kernel
theorem dX10_least_3 : decode cX10_least 3 = .ok (.invokestatic 103, 3) := by decide +kernel
theorem dX10_least_6 : decode cX10_least 6 = .ok (.invokevirtual 129, 3) := by decide +kernel
theorem dX10_least_9 : decode cX10_least 9 = .ok (.istore_n 2, 1) := by decide +kernel
theorem dX10_least_10 : decode cX10_least 10 = .ok (.iload_n 2, 1) := by decide +kernel
theorem dX10_least_11 : decode cX10_least 11 = .ok (.ifCond .eq 5, 3) := by decide +kernel
theorem dX10_least_14 : decode cX10_least 14 = .ok (.iload_n 2, 1) := by decide +kernel
theorem dX10_least_15 : decode cX10_least 15 = .ok (.ireturn, 1) := by decide +kernel
theorem dX10_least_16 : decode cX10_least 16 = .ok (.iload_n 1, 1) := by decide +kernel
theorem dX10_least_17 : decode cX10_least 17 = .ok (.ifCond .ne 13, 3) := by decide +kernel
theorem dX10_least_20 : decode cX10_least 20 = .ok (.aload_n 0, 1) := by decide +kernel
theorem dX10_least_21 : decode cX10_least 21 = .ok (.getfield 32, 3) := by decide +kernel
theorem dX10_least_24 : decode cX10_least 24 = .ok (.invokevirtual 195, 3) := by decide +kernel
theorem dX10_least_27 : decode cX10_least 27 = .ok (.goto 10, 3) := by decide +kernel
theorem dX10_least_30 : decode cX10_least 30 = .ok (.aload_n 0, 1) := by decide +kernel
theorem dX10_least_31 : decode cX10_least 31 = .ok (.getfield 32, 3) := by decide +kernel
theorem dX10_least_34 : decode cX10_least 34 = .ok (.invokevirtual 198, 3) := by decide +kernel
theorem dX10_least_37 : decode cX10_least 37 = .ok (.ireturn, 1) := by decide +kernel
set_option maxRecDepth 20000 in
theorem ggX10_speak_X10_nobody : GoodIn wsX10_speak wsX10_nobody := goodIn_r _ [6, 7, 8, 9, 10, 11, 12, 13, 168, 169, 170, 171, 172, 173, 174, 175, 176, 177, 178, 179, 180, 181, 182, 183, 184] (by decide +kernel) (by decide +kernel)
set_option maxRecDepth 20000 in
theorem gX10_speak_X10_nobody : GoodIn wsX10_speak (wsV RX10 100 RX10 yX10_nobody wsX10_nobody) := goodIn_app (goodIn_of _ (by decide +kernel)) ggX10_speak_X10_nobody
set_option maxRecDepth 20000 in
theorem ggX10_speak_X10_forgotten : GoodIn wsX10_speak wsX10_forgotten := goodIn_r _ [17, 7, 18, 8, 9, 10, 11, 12, 13, 168, 169, 170, 171, 172, 173, 174, 175, 176, 177, 178, 179, 180, 181, 182, 183, 184] (by decide +kernel) (by decide +kernel)
set_option maxRecDepth 20000 in
theorem gX10_speak_X10_forgotten : GoodIn wsX10_speak (wsV RX10 138 RX10 yX10_forgotten wsX10_forgotten) := goodIn_app (goodIn_of _ (by decide +kernel)) ggX10_speak_X10_forgotten
set_option maxRecDepth 20000 in
theorem ggX10_speak_X10_refused_ : GoodIn wsX10_speak wsX10_refused_ := goodIn_r _ [22, 23, 24, 5, 25, 26, 27, 28, 29, 30, 168, 169, 170, 171, 172, 173, 174, 175] (by decide +kernel) (by decide +kernel)
set_option maxRecDepth 20000 in
theorem gX10_speak_X10_refused_ : GoodIn wsX10_speak (wsV RX10 81 RX10 yX10_refused_ wsX10_refused_) := goodIn_app (goodIn_of _ (by decide +kernel)) ggX10_speak_X10_refused_
set_option maxRecDepth 20000 in
theorem ggX10_speak_X3_bestToSpeakTo : GoodIn wsX10_speak wsX3_bestToSpeakTo := goodIn_r _ [35, 36, 37, 38, 39, 40, 41, 34, 42, 43, 44, 45, 46, 47, 48, 49, 11, 50, 51, 52, 53, 54, 55, 56, 57, 58, 59, 13, 60, 61, 62, 63, 64, 65, 66, 67, 68, 69, 70, 71, 72, 73, 74, 75, 76, 77, 78, 79, 80, 81, 82, 83, 84, 85, 86, 87, 88, 89, 90, 91, 92, 93, 94, 95, 96, 97, 98, 99, 100, 101, 102, 103, 104, 105, 106, 107, 108, 109, 110, 111, 112, 113, 114, 115, 116, 117, 118, 119, 120, 121, 122, 123, 124, 125, 126, 127, 128, 129, 130, 131, 132, 133, 134, 135, 136, 137, 138, 139, 140, 141, 142, 143, 144, 145, 146, 147, 148, 149, 150, 151, 152, 153, 154, 155, 156, 157, 158, 159, 160, 161, 162, 163, 9, 10, 12, 164, 165, 166, 167, 185, 186, 187, 188, 189, 190, 191, 176, 177, 178, 179, 180, 181, 182, 183, 184] (by decide +kernel) (by decide +kernel)
set_option maxRecDepth 20000 in
theorem gX10_speak_X3_bestToSpeakTo : GoodIn wsX10_speak (wsV RX10 201 RX3 yX3_bestToSpeakTo wsX3_bestToSpeakTo) := goodIn_app (goodIn_of _ (by decide +kernel)) ggX10_speak_X3_bestToSpeakTo
theorem dX10_speak_0 : decode cX10_speak 0 = .ok (.aload_n 0, 1) := by decide +kernel
theorem dX10_speak_1 : decode cX10_speak 1 = .ok (.aload_n 0, 1) := by decide +kernel
theorem dX10_speak_2 : decode cX10_speak 2 = .ok (.iload_n 1, 1) := by decide +kernel
theorem dX10_speak_3 : decode cX10_speak 3 = .ok (.invokevirtual 100, 3) := by decide +kernel
theorem dX10_speak_6 : decode cX10_speak 6 = .ok (.aload_n 0, 1) := by decide +kernel
theorem dX10_speak_7 : decode cX10_speak 7 = .ok (.iload_n 1, 1) := by decide +kernel
theorem dX10_speak_8 : decode cX10_speak 8 = .ok (.invokevirtual 138, 3) := by decide +kernel
theorem dX10_speak_11 : decode cX10_speak 11 = .ok (.invokevirtual 81, 3) := by decide +kernel
theorem dX10_speak_14 : decode cX10_speak 14 = .ok (.istore_n 2, 1) := by decide +kernel
theorem dX10_speak_15 : decode cX10_speak 15 = .ok (.iload_n 2, 1) := by decide +kernel
theorem dX10_speak_16 : decode cX10_speak 16 = .ok (.ifCond .eq 7, 3) := by decide +kernel
theorem dX10_speak_19 : decode cX10_speak 19 = .ok (.iload_n 2, 1) := by decide +kernel
theorem dX10_speak_20 : decode cX10_speak 20 = .ok (.goto 11, 3) := by decide +kernel
theorem dX10_speak_23 : decode cX10_speak 23 = .ok (.aload_n 0, 1) := by decide +kernel
theorem dX10_speak_24 : decode cX10_speak 24 = .ok (.getfield 47, 3) := by decide +kernel
theorem dX10_speak_27 : decode cX10_speak 27 = .ok (.iload_n 1, 1) := by decide +kernel
theorem dX10_speak_28 : decode cX10_speak 28 = .ok (.invokevirtual 201, 3) := by decide +kernel
theorem dX10_speak_31 : decode cX10_speak 31 = .ok (.ireturn, 1) := by decide +kernel
set_option maxRecDepth 20000 in
theorem ggX10_fewest_X10_nobody : GoodIn wsX10_fewest wsX10_nobody := goodIn_r _ [6, 7, 8, 9, 10, 11, 12, 13, 177, 178, 179, 180, 181, 182, 183, 184, 185, 186, 187, 188, 189, 190, 191, 192, 193] (by decide +kernel) (by decide +kernel)
set_option maxRecDepth 20000 in
theorem gX10_fewest_X10_nobody : GoodIn wsX10_fewest (wsV RX10 100 RX10 yX10_nobody wsX10_nobody) := goodIn_app (goodIn_of _ (by decide +kernel)) ggX10_fewest_X10_nobody
set_option maxRecDepth 20000 in
theorem ggX10_fewest_X10_outside : GoodIn wsX10_fewest wsX10_outside := goodIn_r _ [16] (by decide +kernel) (by decide +kernel)
set_option maxRecDepth 20000 in
theorem gX10_fewest_X10_outside : GoodIn wsX10_fewest (va_wsS RX10 73 yX10_outside wsX10_outside) := goodIn_app (goodIn_of _ (by decide +kernel)) ggX10_fewest_X10_outside
set_option maxRecDepth 20000 in
theorem ggX10_fewest_X10_forgotten : GoodIn wsX10_fewest wsX10_forgotten := goodIn_r _ [20, 7, 21, 8, 9, 10, 11, 12, 13, 177, 178, 179, 180, 181, 182, 183, 184, 185, 186, 187, 188, 189, 190, 191, 192, 193] (by decide +kernel) (by decide +kernel)
set_option maxRecDepth 20000 in
theorem gX10_fewest_X10_forgotten : GoodIn wsX10_fewest (wsV RX10 138 RX10 yX10_forgotten wsX10_forgotten) := goodIn_app (goodIn_of _ (by decide +kernel)) ggX10_fewest_X10_forgotten
set_option maxRecDepth 20000 in
theorem ggX10_fewest_X10_refused__ : GoodIn wsX10_fewest wsX10_refused__ := goodIn_r _ [25, 26, 27, 5, 28, 29, 30, 31, 32, 33, 177, 178, 179, 180, 181, 182, 183, 184] (by decide +kernel) (by decide +kernel)
set_option maxRecDepth 20000 in
theorem gX10_fewest_X10_refused__ : GoodIn wsX10_fewest (wsV RX10 141 RX10 yX10_refused__ wsX10_refused__) := goodIn_app (goodIn_of _ (by decide +kernel)) ggX10_fewest_X10_refused__
set_option maxRecDepth 20000 in
theorem ggX10_fewest_X3_fewestTimes : GoodIn wsX10_fewest wsX3_fewestTimes := goodIn_r _ [38, 39, 40, 41, 37, 42, 43, 44, 45, 46, 47, 48, 49, 11, 50, 51, 52, 53, 54, 55, 56, 9, 10, 12, 13, 57, 58, 59, 60, 61, 62, 63, 64, 65, 66, 67, 68, 69, 70, 71, 72, 73, 74, 75, 76, 77, 78, 79, 80, 81, 82, 83, 84, 85, 86, 87, 88, 89, 90, 91, 92, 93, 94, 95, 96, 97, 98, 99, 100, 101, 102, 103, 104, 105, 106, 107, 108, 109, 110, 111, 112, 113, 114, 115, 116, 117, 118, 119, 120, 121, 122, 123, 124, 125, 126, 127, 128, 129, 130, 131, 132, 133, 134, 135, 136, 137, 138, 139, 140, 141, 142, 143, 144, 145, 146, 147, 148, 149, 150, 151, 152, 153, 154, 155, 156, 157, 158, 159, 160, 161, 162, 163, 164, 165, 166, 167, 168, 169, 170, 171, 172, 173, 174, 175, 176, 194, 195, 196, 197, 198, 199, 200, 185, 186, 187, 188, 189, 190, 191, 192, 193] (by decide +kernel) (by decide +kernel)
set_option maxRecDepth 20000 in
theorem gX10_fewest_X3_fewestTimes : GoodIn wsX10_fewest (wsV RX10 204 RX3 yX3_fewestTimes wsX3_fewestTimes) := goodIn_app (goodIn_of _ (by decide +kernel)) ggX10_fewest_X3_fewestTimes
theorem dX10_fewest_0 : decode cX10_fewest 0 = .ok (.aload_n 0, 1) := by decide +kernel
theorem dX10_fewest_1 : decode cX10_fewest 1 = .ok (.aload_n 0, 1) := by decide +kernel
theorem dX10_fewest_2 : decode cX10_fewest 2 = .ok (.iload_n 1, 1) := by decide +kernel
theorem dX10_fewest_3 : decode cX10_fewest 3 = .ok (.invokevirtual 100, 3) := by decide +kernel
theorem dX10_fewest_6 : decode cX10_fewest 6 = .ok (.iload_n 2, 1) := by decide +kernel
theorem dX10_fewest_7 : decode cX10_fewest 7 = .ok (.iconst 0, 1) := by decide +kernel
theorem dX10_fewest_8 : decode cX10_fewest 8 = .ok (.bipush 60, 2) := by decide +kernel
theorem dX10_fewest_10 : decode cX10_fewest 10 = .ok (.invokestatic 73, 3) := by decide +kernel
theorem dX10_fewest_13 : decode cX10_fewest 13 = .ok (.aload_n 0, 1) := by decide +kernel
theorem dX10_fewest_14 : decode cX10_fewest 14 = .ok (.iload_n 1, 1) := by decide +kernel
theorem dX10_fewest_15 : decode cX10_fewest 15 = .ok (.invokevirtual 138, 3) := by decide +kernel
theorem dX10_fewest_18 : decode cX10_fewest 18 = .ok (.invokevirtual 141, 3) := by decide +kernel
theorem dX10_fewest_21 : decode cX10_fewest 21 = .ok (.istore_n 3, 1) := by decide +kernel
theorem dX10_fewest_22 : decode cX10_fewest 22 = .ok (.iload_n 3, 1) := by decide +kernel
theorem dX10_fewest_23 : decode cX10_fewest 23 = .ok (.ifCond .eq 7, 3) := by decide +kernel
theorem dX10_fewest_26 : decode cX10_fewest 26 = .ok (.iload_n 3, 1) := by decide +kernel
theorem dX10_fewest_27 : decode cX10_fewest 27 = .ok (.goto 12, 3) := by decide +kernel
theorem dX10_fewest_30 : decode cX10_fewest 30 = .ok (.aload_n 0, 1) := by decide +kernel
theorem dX10_fewest_31 : decode cX10_fewest 31 = .ok (.getfield 47, 3) := by decide +kernel
theorem dX10_fewest_34 : decode cX10_fewest 34 = .ok (.iload_n 1, 1) := by decide +kernel
theorem dX10_fewest_35 : decode cX10_fewest 35 = .ok (.iload_n 2, 1) := by decide +kernel
theorem dX10_fewest_36 : decode cX10_fewest 36 = .ok (.invokevirtual 204, 3) := by decide +kernel
theorem dX10_fewest_39 : decode cX10_fewest 39 = .ok (.ireturn, 1) := by decide +kernel
set_option maxRecDepth 20000 in
theorem ggX10_save_X10_outside : GoodIn wsX10_save wsX10_outside := goodIn_r _ [5] (by decide +kernel) (by decide +kernel)
set_option maxRecDepth 20000 in
theorem gX10_save_X10_outside : GoodIn wsX10_save (va_wsS RX10 73 yX10_outside wsX10_outside) := goodIn_app (goodIn_of _ (by decide +kernel)) ggX10_save_X10_outside
set_option maxRecDepth 20000 in
theorem ggX10_save_X10_refused : GoodIn wsX10_save wsX10_refused := goodIn_r _ [9, 10, 11, 12, 4, 13, 14, 158, 159, 160, 161, 162, 163, 164, 165] (by decide +kernel) (by decide +kernel)
set_option maxRecDepth 20000 in
theorem gX10_save_X10_refused : GoodIn wsX10_save (wsV RX10 129 RX10 yX10_refused wsX10_refused) := goodIn_app (goodIn_of _ (by decide +kernel)) ggX10_save_X10_refused
set_option maxRecDepth 20000 in
theorem ggX10_save_X3_bestAsDog : GoodIn wsX10_save wsX3_bestAsDog := goodIn_r _ [19, 20, 21, 22, 23, 24, 25, 26, 27, 18, 28, 29, 30, 31, 32, 33, 34, 35, 36, 37, 38, 39, 40, 41, 42, 43, 44, 45, 46, 47, 48, 49, 50, 51, 52, 53, 54, 55, 56, 57, 58, 59, 60, 61, 62, 63, 64, 65, 66, 67, 68, 69, 70, 71, 72, 73, 74, 75, 76, 77, 78, 79, 80, 81, 82, 83, 84, 85, 86, 87, 88, 89, 90, 91, 92, 93, 94, 95, 96, 97, 98, 99, 100, 101, 102, 103, 104, 105, 106, 107, 108, 109, 110, 111, 112, 113, 114, 115, 116, 117, 118, 119, 120, 121, 122, 123, 124, 125, 126, 127, 128, 129, 130, 131, 132, 133, 134, 135, 136, 137, 138, 139, 140, 141, 142, 143, 144, 145, 146, 147, 148, 149, 150, 151, 152, 153, 154, 155, 156, 157, 166, 167, 168, 169, 170, 171, 172, 173, 174, 175, 176, 177, 178, 179, 180, 181] (by decide +kernel) (by decide +kernel)
set_option maxRecDepth 20000 in
theorem gX10_save_X3_bestAsDog : GoodIn wsX10_save (wsV RX10 207 RX3 yX3_bestAsDog wsX3_bestAsDog) := goodIn_app (goodIn_of _ (by decide +kernel)) ggX10_save_X3_bestAsDog
theorem dX10_save_0 : decode cX10_save 0 = .ok (.aload_n 0, 1) := by decide +kernel
theorem dX10_save_1 : decode cX10_save 1 = .ok (.iload_n 1, 1) := by decide +kernel
theorem dX10_save_2 : decode cX10_save 2 = .ok (.iconst 0, 1) := by decide +kernel
theorem dX10_save_3 : decode cX10_save 3 = .ok (.bipush 60, 2) := by decide +kernel
theorem dX10_save_5 : decode cX10_save 5 = .ok (.invokestatic 73, 3) := by decide +kernel
theorem dX10_save_8 : decode cX10_save 8 = .ok (.invokevirtual 129, 3) := by decide +kernel
theorem dX10_save_11 : decode cX10_save 11 = .ok (.istore_n 2, 1) := by decide +kernel
theorem dX10_save_12 : decode cX10_save 12 = .ok (.iload_n 2, 1) := by decide +kernel
theorem dX10_save_13 : decode cX10_save 13 = .ok (.ifCond .eq 7, 3) := by decide +kernel
theorem dX10_save_16 : decode cX10_save 16 = .ok (.iload_n 2, 1) := by decide +kernel
theorem dX10_save_17 : decode cX10_save 17 = .ok (.goto 11, 3) := by decide +kernel
theorem dX10_save_20 : decode cX10_save 20 = .ok (.aload_n 0, 1) := by decide +kernel
theorem dX10_save_21 : decode cX10_save 21 = .ok (.getfield 47, 3) := by decide +kernel
theorem dX10_save_24 : decode cX10_save 24 = .ok (.iload_n 1, 1) := by decide +kernel
theorem dX10_save_25 : decode cX10_save 25 = .ok (.invokevirtual 207, 3) := by decide +kernel
theorem dX10_save_28 : decode cX10_save 28 = .ok (.ireturn, 1) := by decide +kernel
set_option maxRecDepth 20000 in
theorem ggX10_bring_X10_wrongWhat : GoodIn wsX10_bring wsX10_wrongWhat := goodIn_r _ [5] (by decide +kernel) (by decide +kernel)
set_option maxRecDepth 20000 in
theorem gX10_bring_X10_wrongWhat : GoodIn wsX10_bring (va_wsS RX10 103 yX10_wrongWhat wsX10_wrongWhat) := goodIn_app (goodIn_of _ (by decide +kernel)) ggX10_bring_X10_wrongWhat
set_option maxRecDepth 20000 in
theorem ggX10_bring_X10_refused : GoodIn wsX10_bring wsX10_refused := goodIn_r _ [9, 10, 11, 12, 4, 13, 14, 148, 149, 150, 151, 152, 153, 154, 155] (by decide +kernel) (by decide +kernel)
set_option maxRecDepth 20000 in
theorem gX10_bring_X10_refused : GoodIn wsX10_bring (wsV RX10 129 RX10 yX10_refused wsX10_refused) := goodIn_app (goodIn_of _ (by decide +kernel)) ggX10_bring_X10_refused
set_option maxRecDepth 20000 in
theorem ggX10_bring_X3_bestToBring : GoodIn wsX10_bring wsX3_bestToBring := goodIn_r _ [19, 20, 21, 22, 23, 24, 25, 18, 26, 27, 28, 29, 30, 31, 32, 33, 34, 35, 36, 37, 38, 39, 40, 41, 42, 43, 44, 45, 46, 47, 48, 49, 50, 51, 52, 53, 54, 55, 56, 57, 58, 59, 60, 61, 62, 63, 64, 65, 66, 67, 68, 69, 70, 71, 72, 73, 74, 75, 76, 77, 78, 79, 80, 81, 82, 83, 84, 85, 86, 87, 88, 89, 90, 91, 92, 93, 94, 95, 96, 97, 98, 99, 100, 101, 102, 103, 104, 105, 106, 107, 108, 109, 110, 111, 112, 113, 114, 115, 116, 117, 118, 119, 120, 121, 122, 123, 124, 125, 126, 127, 128, 129, 130, 131, 132, 133, 134, 135, 136, 137, 138, 139, 140, 141, 142, 143, 144, 145, 146, 156, 157, 158, 159, 160, 161, 162, 163, 164, 165, 166, 167, 168, 169, 170, 171] (by decide +kernel) (by decide +kernel)
set_option maxRecDepth 20000 in
theorem gX10_bring_X3_bestToBring : GoodIn wsX10_bring (wsV RX10 210 RX3 yX3_bestToBring wsX3_bestToBring) := goodIn_app (goodIn_of _ (by decide +kernel)) ggX10_bring_X3_bestToBring
set_option maxRecDepth 20000 in
theorem ggX10_bring_X3_weeksIfBack : GoodIn wsX10_bring wsX3_weeksIfBack := goodIn_r _ [26, 27, 28, 29, 30, 31, 32, 33, 34, 18, 35, 20, 36, 37, 38, 39, 40, 41, 42, 43, 44, 45, 46, 47, 48, 49, 50, 51, 52, 53, 54, 55, 56, 57, 58, 59, 60, 61, 62, 63, 64, 65, 66, 67, 68, 69, 70, 71, 72, 73, 74, 75, 76, 77, 78, 79, 80, 81, 82, 83, 84, 85, 86, 87, 88, 89, 90, 91, 92, 93, 94, 95, 96, 97, 98, 99, 100, 101, 102, 103, 104, 105, 106, 107, 108, 109, 110, 111, 112, 113, 114, 115, 116, 117, 118, 119, 120, 121, 122, 123, 124, 125, 126, 127, 128, 129, 130, 131, 132, 133, 134, 135, 136, 137, 138, 139, 140, 141, 142, 143, 144, 145, 146, 156, 157, 158, 159, 160, 161, 162, 163, 164, 165, 166, 167, 168, 169, 170, 171] (by decide +kernel) (by decide +kernel)
set_option maxRecDepth 20000 in
theorem gX10_bring_X3_weeksIfBack : GoodIn wsX10_bring (wsV RX10 213 RX3 yX3_weeksIfBack wsX3_weeksIfBack) := goodIn_app (goodIn_of _ (by decide +kernel)) ggX10_bring_X3_weeksIfBack
theorem dX10_bring_0 : decode cX10_bring 0 = .ok (.aload_n 0, 1) := by decide +kernel
theorem dX10_bring_1 : decode cX10_bring 1 = .ok (.iload_n 1, 1) := by decide +kernel
theorem dX10_bring_2 : decode cX10_bring 2 = .ok (.iconst 1, 1) := by decide +kernel
theorem dX10_bring_3 : decode cX10_bring 3 = .ok (.invokestatic 103, 3) := by decide +kernel
theorem dX10_bring_6 : decode cX10_bring 6 = .ok (.invokevirtual 129, 3) := by decide +kernel
theorem dX10_bring_9 : decode cX10_bring 9 = .ok (.istore_n 2, 1) := by decide +kernel
theorem dX10_bring_10 : decode cX10_bring 10 = .ok (.iload_n 2, 1) := by decide +kernel
theorem dX10_bring_11 : decode cX10_bring 11 = .ok (.ifCond .eq 5, 3) := by decide +kernel
theorem dX10_bring_14 : decode cX10_bring 14 = .ok (.iload_n 2, 1) := by decide +kernel
theorem dX10_bring_15 : decode cX10_bring 15 = .ok (.ireturn, 1) := by decide +kernel
theorem dX10_bring_16 : decode cX10_bring 16 = .ok (.aload_n 0, 1) := by decide +kernel
theorem dX10_bring_17 : decode cX10_bring 17 = .ok (.getfield 47, 3) := by decide +kernel
theorem dX10_bring_20 : decode cX10_bring 20 = .ok (.invokevirtual 210, 3) := by decide +kernel
theorem dX10_bring_23 : decode cX10_bring 23 = .ok (.istore_n 3, 1) := by decide +kernel
theorem dX10_bring_24 : decode cX10_bring 24 = .ok (.iload_n 1, 1) := by decide +kernel
theorem dX10_bring_25 : decode cX10_bring 25 = .ok (.ifCond .eq 9, 3) := by decide +kernel
theorem dX10_bring_28 : decode cX10_bring 28 = .ok (.iload_n 3, 1) := by decide +kernel
theorem dX10_bring_29 : decode cX10_bring 29 = .ok (.bipush (-9), 2) := by decide +kernel
theorem dX10_bring_31 : decode cX10_bring 31 = .ok (.if_icmp .ne 7, 3) := by decide +kernel
theorem dX10_bring_34 : decode cX10_bring 34 = .ok (.iload_n 3, 1) := by decide +kernel
theorem dX10_bring_35 : decode cX10_bring 35 = .ok (.goto 11, 3) := by decide +kernel
theorem dX10_bring_38 : decode cX10_bring 38 = .ok (.aload_n 0, 1) := by decide +kernel
theorem dX10_bring_39 : decode cX10_bring 39 = .ok (.getfield 47, 3) := by decide +kernel
theorem dX10_bring_42 : decode cX10_bring 42 = .ok (.iload_n 3, 1) := by decide +kernel
theorem dX10_bring_43 : decode cX10_bring 43 = .ok (.invokevirtual 213, 3) := by decide +kernel
theorem dX10_bring_46 : decode cX10_bring 46 = .ok (.ireturn, 1) := by decide +kernel
set_option maxRecDepth 20000 in
theorem ggX10_league_X10_nobody : GoodIn wsX10_league wsX10_nobody := goodIn_r _ [6, 1, 7, 8, 9, 10, 11, 12, 49, 50, 51, 52, 53, 54, 55, 56, 57, 58, 59, 60, 61, 62, 63, 64, 65] (by decide +kernel) (by decide +kernel)
set_option maxRecDepth 20000 in
theorem gX10_league_X10_nobody : GoodIn wsX10_league (wsV RX10 100 RX10 yX10_nobody wsX10_nobody) := goodIn_app (goodIn_of _ (by decide +kernel)) ggX10_league_X10_nobody
set_option maxRecDepth 20000 in
theorem ggX10_league_X10_forgotten : GoodIn wsX10_league wsX10_forgotten := goodIn_r _ [16, 1, 17, 7, 8, 9, 10, 11, 12, 49, 50, 51, 52, 53, 54, 55, 56, 57, 58, 59, 60, 61, 62, 63, 64, 65] (by decide +kernel) (by decide +kernel)
set_option maxRecDepth 20000 in
theorem gX10_league_X10_forgotten : GoodIn wsX10_league (wsV RX10 138 RX10 yX10_forgotten wsX10_forgotten) := goodIn_app (goodIn_of _ (by decide +kernel)) ggX10_league_X10_forgotten
set_option maxRecDepth 20000 in
theorem ggX10_league_X10_refused_ : GoodIn wsX10_league wsX10_refused_ := goodIn_r _ [21, 22, 23, 5, 24, 25, 26, 27, 28, 29, 49, 50, 51, 52, 53, 54, 55, 56] (by decide +kernel) (by decide +kernel)
set_option maxRecDepth 20000 in
theorem gX10_league_X10_refused_ : GoodIn wsX10_league (wsV RX10 81 RX10 yX10_refused_ wsX10_refused_) := goodIn_app (goodIn_of _ (by decide +kernel)) ggX10_league_X10_refused_
set_option maxRecDepth 20000 in
theorem ggX10_league_X8_leagueOf : GoodIn wsX10_league wsX8_leagueOf := goodIn_r _ [33, 12, 34, 35, 36, 10, 37, 38, 39, 40, 41, 42, 43, 8, 9, 11, 44, 45, 46, 47, 48, 57, 58, 59, 60, 61, 62, 63, 64, 65] (by decide +kernel) (by decide +kernel)
set_option maxRecDepth 20000 in
theorem gX10_league_X8_leagueOf : GoodIn wsX10_league (wsV RX10 216 RX8 yX8_leagueOf wsX8_leagueOf) := goodIn_app (goodIn_of _ (by decide +kernel)) ggX10_league_X8_leagueOf
theorem dX10_league_0 : decode cX10_league 0 = .ok (.aload_n 0, 1) := by decide +kernel
theorem dX10_league_1 : decode cX10_league 1 = .ok (.aload_n 0, 1) := by decide +kernel
theorem dX10_league_2 : decode cX10_league 2 = .ok (.iload_n 1, 1) := by decide +kernel
theorem dX10_league_3 : decode cX10_league 3 = .ok (.invokevirtual 100, 3) := by decide +kernel
theorem dX10_league_6 : decode cX10_league 6 = .ok (.aload_n 0, 1) := by decide +kernel
theorem dX10_league_7 : decode cX10_league 7 = .ok (.iload_n 1, 1) := by decide +kernel
theorem dX10_league_8 : decode cX10_league 8 = .ok (.invokevirtual 138, 3) := by decide +kernel
theorem dX10_league_11 : decode cX10_league 11 = .ok (.invokevirtual 81, 3) := by decide +kernel
theorem dX10_league_14 : decode cX10_league 14 = .ok (.istore_n 2, 1) := by decide +kernel
theorem dX10_league_15 : decode cX10_league 15 = .ok (.iload_n 2, 1) := by decide +kernel
theorem dX10_league_16 : decode cX10_league 16 = .ok (.ifCond .eq 7, 3) := by decide +kernel
theorem dX10_league_19 : decode cX10_league 19 = .ok (.iload_n 2, 1) := by decide +kernel
theorem dX10_league_20 : decode cX10_league 20 = .ok (.goto 11, 3) := by decide +kernel
theorem dX10_league_23 : decode cX10_league 23 = .ok (.aload_n 0, 1) := by decide +kernel
theorem dX10_league_24 : decode cX10_league 24 = .ok (.getfield 32, 3) := by decide +kernel
theorem dX10_league_27 : decode cX10_league 27 = .ok (.iload_n 1, 1) := by decide +kernel
theorem dX10_league_28 : decode cX10_league 28 = .ok (.invokevirtual 216, 3) := by decide +kernel
theorem dX10_league_31 : decode cX10_league 31 = .ok (.ireturn, 1) := by decide +kernel
set_option maxRecDepth 20000 in
theorem ggX10_largest_X10_wrongWhat : GoodIn wsX10_largest wsX10_wrongWhat := goodIn_r _ [5] (by decide +kernel) (by decide +kernel)
set_option maxRecDepth 20000 in
theorem gX10_largest_X10_wrongWhat : GoodIn wsX10_largest (va_wsS RX10 103 yX10_wrongWhat wsX10_wrongWhat) := goodIn_app (goodIn_of _ (by decide +kernel)) ggX10_largest_X10_wrongWhat
set_option maxRecDepth 20000 in
theorem ggX10_largest_X10_refused : GoodIn wsX10_largest wsX10_refused := goodIn_r _ [9, 10, 11, 12, 4, 13, 14, 60, 61, 62, 63, 64, 65, 66, 67] (by decide +kernel) (by decide +kernel)
set_option maxRecDepth 20000 in
theorem gX10_largest_X10_refused : GoodIn wsX10_largest (wsV RX10 129 RX10 yX10_refused wsX10_refused) := goodIn_app (goodIn_of _ (by decide +kernel)) ggX10_largest_X10_refused
set_option maxRecDepth 20000 in
theorem ggX10_largest_X3_largestLeague : GoodIn wsX10_largest wsX3_largestLeague := goodIn_r _ [19, 20, 21, 22, 23, 24, 25, 26, 27, 28, 29, 30, 31, 32, 33, 34, 35, 36, 37, 38, 39, 40, 41, 42, 43, 44, 45, 46, 47, 48, 49, 50, 51, 52, 53, 54, 55, 56, 18, 57, 58, 68, 69, 70, 71, 72, 73, 74, 75, 76, 77, 78, 79, 80, 81, 82, 83] (by decide +kernel) (by decide +kernel)
set_option maxRecDepth 20000 in
theorem gX10_largest_X3_largestLeague : GoodIn wsX10_largest (wsV RX10 219 RX3 yX3_largestLeague wsX3_largestLeague) := goodIn_app (goodIn_of _ (by decide +kernel)) ggX10_largest_X3_largestLeague
set_option maxRecDepth 20000 in
theorem ggX10_largest_J6_bitCount_0f7a4 : GoodIn wsX10_largest wsJ6_bitCount_0f7a4 := goodIn_r _ [50, 51, 52, 53] (by decide +kernel) (by decide +kernel)
set_option maxRecDepth 20000 in
theorem gX10_largest_J6_bitCount_0f7a4 : GoodIn wsX10_largest (va_wsS RX10 222 yJ6_bitCount_0f7a4 wsJ6_bitCount_0f7a4) := goodIn_app (goodIn_of _ (by decide +kernel)) ggX10_largest_J6_bitCount_0f7a4
theorem dX10_largest_0 : decode cX10_largest 0 = .ok (.aload_n 0, 1) := by decide +kernel
theorem dX10_largest_1 : decode cX10_largest 1 = .ok (.iload_n 1, 1) := by decide +kernel
theorem dX10_largest_2 : decode cX10_largest 2 = .ok (.iconst 1, 1) := by decide +kernel
theorem dX10_largest_3 : decode cX10_largest 3 = .ok (.invokestatic 103, 3) := by decide +kernel
theorem dX10_largest_6 : decode cX10_largest 6 = .ok (.invokevirtual 129, 3) := by decide +kernel
theorem dX10_largest_9 : decode cX10_largest 9 = .ok (.istore_n 2, 1) := by decide +kernel
theorem dX10_largest_10 : decode cX10_largest 10 = .ok (.iload_n 2, 1) := by decide +kernel
theorem dX10_largest_11 : decode cX10_largest 11 = .ok (.ifCond .eq 5, 3) := by decide +kernel
theorem dX10_largest_14 : decode cX10_largest 14 = .ok (.iload_n 2, 1) := by decide +kernel
theorem dX10_largest_15 : decode cX10_largest 15 = .ok (.ireturn, 1) := by decide +kernel
theorem dX10_largest_16 : decode cX10_largest 16 = .ok (.aload_n 0, 1) := by decide +kernel
theorem dX10_largest_17 : decode cX10_largest 17 = .ok (.getfield 47, 3) := by decide +kernel
theorem dX10_largest_20 : decode cX10_largest 20 = .ok (.invokevirtual 219, 3) := by decide +kernel
theorem dX10_largest_23 : decode cX10_largest 23 = .ok (.istore_n 3, 1) := by decide +kernel
theorem dX10_largest_24 : decode cX10_largest 24 = .ok (.iload_n 1, 1) := by decide +kernel
theorem dX10_largest_25 : decode cX10_largest 25 = .ok (.ifCond .ne 7, 3) := by decide +kernel
theorem dX10_largest_28 : decode cX10_largest 28 = .ok (.iload_n 3, 1) := by decide +kernel
theorem dX10_largest_29 : decode cX10_largest 29 = .ok (.goto 7, 3) := by decide +kernel
theorem dX10_largest_32 : decode cX10_largest 32 = .ok (.iload_n 3, 1) := by decide +kernel
theorem dX10_largest_33 : decode cX10_largest 33 = .ok (.invokestatic 222, 3) := by decide +kernel
theorem dX10_largest_36 : decode cX10_largest 36 = .ok (.ireturn, 1) := by decide +kernel
set_option maxRecDepth 20000 in
theorem ggX10_cold_X10_wrongWhat : GoodIn wsX10_cold wsX10_wrongWhat := goodIn_r _ [5] (by decide +kernel) (by decide +kernel)
set_option maxRecDepth 20000 in
theorem gX10_cold_X10_wrongWhat : GoodIn wsX10_cold (va_wsS RX10 103 yX10_wrongWhat wsX10_wrongWhat) := goodIn_app (goodIn_of _ (by decide +kernel)) ggX10_cold_X10_wrongWhat
set_option maxRecDepth 20000 in
theorem ggX10_cold_X10_refused : GoodIn wsX10_cold wsX10_refused := goodIn_r _ [9, 10, 11, 12, 4, 13, 14, 47, 48, 49, 50, 51, 52, 53, 54] (by decide +kernel) (by decide +kernel)
set_option maxRecDepth 20000 in
theorem gX10_cold_X10_refused : GoodIn wsX10_cold (wsV RX10 129 RX10 yX10_refused wsX10_refused) := goodIn_app (goodIn_of _ (by decide +kernel)) ggX10_cold_X10_refused
set_option maxRecDepth 20000 in
theorem ggX10_cold_X8_countCold : GoodIn wsX10_cold wsX8_countCold := goodIn_r _ [19, 20, 21, 22, 23, 18, 24, 25, 26, 27, 28, 29, 30, 31, 32, 33, 34, 35, 36, 37, 38, 39, 40, 41, 42, 55, 56, 57, 58, 59, 60, 61, 62, 63] (by decide +kernel) (by decide +kernel)
set_option maxRecDepth 20000 in
theorem gX10_cold_X8_countCold : GoodIn wsX10_cold (wsV RX10 227 RX8 yX8_countCold wsX8_countCold) := goodIn_app (goodIn_of _ (by decide +kernel)) ggX10_cold_X8_countCold
set_option maxRecDepth 20000 in
theorem ggX10_cold_X8_firstCold : GoodIn wsX10_cold wsX8_firstCold := goodIn_r _ [46, 20, 21, 22, 23, 18, 24, 25, 26, 27, 28, 29, 30, 31, 32, 33, 34, 35, 36, 37, 38, 39, 40, 41, 42, 55, 56, 57, 58, 59, 60, 61, 62, 63] (by decide +kernel) (by decide +kernel)
set_option maxRecDepth 20000 in
theorem gX10_cold_X8_firstCold : GoodIn wsX10_cold (wsV RX10 230 RX8 yX8_firstCold wsX8_firstCold) := goodIn_app (goodIn_of _ (by decide +kernel)) ggX10_cold_X8_firstCold
theorem dX10_cold_0 : decode cX10_cold 0 = .ok (.aload_n 0, 1) := by decide +kernel
theorem dX10_cold_1 : decode cX10_cold 1 = .ok (.iload_n 1, 1) := by decide +kernel
theorem dX10_cold_2 : decode cX10_cold 2 = .ok (.iconst 1, 1) := by decide +kernel
theorem dX10_cold_3 : decode cX10_cold 3 = .ok (.invokestatic 103, 3) := by decide +kernel
theorem dX10_cold_6 : decode cX10_cold 6 = .ok (.invokevirtual 129, 3) := by decide +kernel
theorem dX10_cold_9 : decode cX10_cold 9 = .ok (.istore_n 2, 1) := by decide +kernel
theorem dX10_cold_10 : decode cX10_cold 10 = .ok (.iload_n 2, 1) := by decide +kernel
theorem dX10_cold_11 : decode cX10_cold 11 = .ok (.ifCond .eq 5, 3) := by decide +kernel
theorem dX10_cold_14 : decode cX10_cold 14 = .ok (.iload_n 2, 1) := by decide +kernel
theorem dX10_cold_15 : decode cX10_cold 15 = .ok (.ireturn, 1) := by decide +kernel
theorem dX10_cold_16 : decode cX10_cold 16 = .ok (.iload_n 1, 1) := by decide +kernel
theorem dX10_cold_17 : decode cX10_cold 17 = .ok (.ifCond .ne 13, 3) := by decide +kernel
theorem dX10_cold_20 : decode cX10_cold 20 = .ok (.aload_n 0, 1) := by decide +kernel
theorem dX10_cold_21 : decode cX10_cold 21 = .ok (.getfield 32, 3) := by decide +kernel
theorem dX10_cold_24 : decode cX10_cold 24 = .ok (.invokevirtual 227, 3) := by decide +kernel
theorem dX10_cold_27 : decode cX10_cold 27 = .ok (.goto 10, 3) := by decide +kernel
theorem dX10_cold_30 : decode cX10_cold 30 = .ok (.aload_n 0, 1) := by decide +kernel
theorem dX10_cold_31 : decode cX10_cold 31 = .ok (.getfield 32, 3) := by decide +kernel
theorem dX10_cold_34 : decode cX10_cold 34 = .ok (.invokevirtual 230, 3) := by decide +kernel
theorem dX10_cold_37 : decode cX10_cold 37 = .ok (.ireturn, 1) := by decide +kernel
set_option maxRecDepth 20000 in
theorem ggX10_envy_X10_nobody : GoodIn wsX10_envy wsX10_nobody := goodIn_r _ [6, 1, 7, 8, 9, 10, 11, 12, 49, 50, 51, 52, 53, 54, 55, 56, 57, 58, 59, 60, 61, 62, 63, 64, 65] (by decide +kernel) (by decide +kernel)
set_option maxRecDepth 20000 in
theorem gX10_envy_X10_nobody : GoodIn wsX10_envy (wsV RX10 100 RX10 yX10_nobody wsX10_nobody) := goodIn_app (goodIn_of _ (by decide +kernel)) ggX10_envy_X10_nobody
set_option maxRecDepth 20000 in
theorem ggX10_envy_X10_forgotten : GoodIn wsX10_envy wsX10_forgotten := goodIn_r _ [16, 1, 17, 7, 8, 9, 10, 11, 12, 49, 50, 51, 52, 53, 54, 55, 56, 57, 58, 59, 60, 61, 62, 63, 64, 65] (by decide +kernel) (by decide +kernel)
set_option maxRecDepth 20000 in
theorem gX10_envy_X10_forgotten : GoodIn wsX10_envy (wsV RX10 138 RX10 yX10_forgotten wsX10_forgotten) := goodIn_app (goodIn_of _ (by decide +kernel)) ggX10_envy_X10_forgotten
set_option maxRecDepth 20000 in
theorem ggX10_envy_X10_refused_ : GoodIn wsX10_envy wsX10_refused_ := goodIn_r _ [21, 22, 23, 5, 24, 25, 26, 27, 28, 29, 49, 50, 51, 52, 53, 54, 55, 56] (by decide +kernel) (by decide +kernel)
set_option maxRecDepth 20000 in
theorem gX10_envy_X10_refused_ : GoodIn wsX10_envy (wsV RX10 81 RX10 yX10_refused_ wsX10_refused_) := goodIn_app (goodIn_of _ (by decide +kernel)) ggX10_envy_X10_refused_
set_option maxRecDepth 20000 in
theorem ggX10_envy_X8_leastRemembered : GoodIn wsX10_envy wsX8_leastRemembered := goodIn_r _ [33, 12, 34, 35, 36, 10, 37, 38, 39, 40, 41, 42, 43, 8, 9, 11, 44, 45, 46, 47, 48, 57, 58, 59, 60, 61, 62, 63, 64, 65] (by decide +kernel) (by decide +kernel)
set_option maxRecDepth 20000 in
theorem gX10_envy_X8_leastRemembered : GoodIn wsX10_envy (wsV RX10 233 RX8 yX8_leastRemembered wsX8_leastRemembered) := goodIn_app (goodIn_of _ (by decide +kernel)) ggX10_envy_X8_leastRemembered
theorem dX10_envy_0 : decode cX10_envy 0 = .ok (.aload_n 0, 1) := by decide +kernel
theorem dX10_envy_1 : decode cX10_envy 1 = .ok (.aload_n 0, 1) := by decide +kernel
theorem dX10_envy_2 : decode cX10_envy 2 = .ok (.iload_n 1, 1) := by decide +kernel
theorem dX10_envy_3 : decode cX10_envy 3 = .ok (.invokevirtual 100, 3) := by decide +kernel
theorem dX10_envy_6 : decode cX10_envy 6 = .ok (.aload_n 0, 1) := by decide +kernel
theorem dX10_envy_7 : decode cX10_envy 7 = .ok (.iload_n 1, 1) := by decide +kernel
theorem dX10_envy_8 : decode cX10_envy 8 = .ok (.invokevirtual 138, 3) := by decide +kernel
theorem dX10_envy_11 : decode cX10_envy 11 = .ok (.invokevirtual 81, 3) := by decide +kernel
theorem dX10_envy_14 : decode cX10_envy 14 = .ok (.istore_n 2, 1) := by decide +kernel
theorem dX10_envy_15 : decode cX10_envy 15 = .ok (.iload_n 2, 1) := by decide +kernel
theorem dX10_envy_16 : decode cX10_envy 16 = .ok (.ifCond .eq 7, 3) := by decide +kernel
theorem dX10_envy_19 : decode cX10_envy 19 = .ok (.iload_n 2, 1) := by decide +kernel
theorem dX10_envy_20 : decode cX10_envy 20 = .ok (.goto 11, 3) := by decide +kernel
theorem dX10_envy_23 : decode cX10_envy 23 = .ok (.aload_n 0, 1) := by decide +kernel
theorem dX10_envy_24 : decode cX10_envy 24 = .ok (.getfield 32, 3) := by decide +kernel
theorem dX10_envy_27 : decode cX10_envy 27 = .ok (.iload_n 1, 1) := by decide +kernel
theorem dX10_envy_28 : decode cX10_envy 28 = .ok (.invokevirtual 233, 3) := by decide +kernel
theorem dX10_envy_31 : decode cX10_envy 31 = .ok (.ireturn, 1) := by decide +kernel
set_option maxRecDepth 20000 in
theorem ggX10_power_X10_nobody : GoodIn wsX10_power wsX10_nobody := goodIn_r _ [6, 7, 8, 9, 10, 11, 12, 13, 159, 160, 161, 162, 163, 164, 165, 166, 167, 168, 169, 170, 171, 172, 173, 174, 175] (by decide +kernel) (by decide +kernel)
set_option maxRecDepth 20000 in
theorem gX10_power_X10_nobody : GoodIn wsX10_power (wsV RX10 100 RX10 yX10_nobody wsX10_nobody) := goodIn_app (goodIn_of _ (by decide +kernel)) ggX10_power_X10_nobody
set_option maxRecDepth 20000 in
theorem ggX10_power_X10_outside : GoodIn wsX10_power wsX10_outside := goodIn_r _ [16] (by decide +kernel) (by decide +kernel)
set_option maxRecDepth 20000 in
theorem gX10_power_X10_outside : GoodIn wsX10_power (va_wsS RX10 73 yX10_outside wsX10_outside) := goodIn_app (goodIn_of _ (by decide +kernel)) ggX10_power_X10_outside
set_option maxRecDepth 20000 in
theorem ggX10_power_X10_forgotten : GoodIn wsX10_power wsX10_forgotten := goodIn_r _ [20, 7, 21, 8, 9, 10, 11, 12, 13, 159, 160, 161, 162, 163, 164, 165, 166, 167, 168, 169, 170, 171, 172, 173, 174, 175] (by decide +kernel) (by decide +kernel)
set_option maxRecDepth 20000 in
theorem gX10_power_X10_forgotten : GoodIn wsX10_power (wsV RX10 138 RX10 yX10_forgotten wsX10_forgotten) := goodIn_app (goodIn_of _ (by decide +kernel)) ggX10_power_X10_forgotten
set_option maxRecDepth 20000 in
theorem ggX10_power_X10_refused__ : GoodIn wsX10_power wsX10_refused__ := goodIn_r _ [25, 26, 27, 5, 28, 29, 30, 31, 32, 33, 159, 160, 161, 162, 163, 164, 165, 166] (by decide +kernel) (by decide +kernel)
set_option maxRecDepth 20000 in
theorem gX10_power_X10_refused__ : GoodIn wsX10_power (wsV RX10 141 RX10 yX10_refused__ wsX10_refused__) := goodIn_app (goodIn_of _ (by decide +kernel)) ggX10_power_X10_refused__
set_option maxRecDepth 20000 in
theorem ggX10_power_X3_powerOf : GoodIn wsX10_power wsX3_powerOf := goodIn_r _ [38, 39, 40, 41, 42, 43, 44, 37, 45, 46, 47, 48, 11, 49, 50, 51, 52, 53, 54, 55, 56, 57, 58, 13, 59, 60, 61, 62, 63, 64, 65, 66, 67, 68, 69, 70, 71, 72, 73, 74, 75, 76, 77, 78, 79, 80, 81, 82, 83, 84, 85, 86, 87, 88, 89, 90, 91, 92, 93, 94, 95, 96, 97, 98, 99, 100, 101, 102, 103, 104, 105, 106, 107, 108, 109, 110, 111, 112, 113, 114, 115, 116, 117, 118, 119, 120, 121, 122, 123, 124, 125, 126, 127, 128, 129, 130, 131, 132, 133, 134, 135, 136, 137, 138, 139, 140, 141, 142, 143, 144, 145, 146, 147, 148, 149, 150, 151, 152, 153, 154, 155, 156, 157, 158, 176, 177, 178, 179, 180, 181, 182, 167, 168, 169, 170, 171, 172, 173, 174, 175] (by decide +kernel) (by decide +kernel)
set_option maxRecDepth 20000 in
theorem gX10_power_X3_powerOf : GoodIn wsX10_power (wsV RX10 236 RX3 yX3_powerOf wsX3_powerOf) := goodIn_app (goodIn_of _ (by decide +kernel)) ggX10_power_X3_powerOf
theorem dX10_power_0 : decode cX10_power 0 = .ok (.aload_n 0, 1) := by decide +kernel
theorem dX10_power_1 : decode cX10_power 1 = .ok (.aload_n 0, 1) := by decide +kernel
theorem dX10_power_2 : decode cX10_power 2 = .ok (.iload_n 1, 1) := by decide +kernel
theorem dX10_power_3 : decode cX10_power 3 = .ok (.invokevirtual 100, 3) := by decide +kernel
theorem dX10_power_6 : decode cX10_power 6 = .ok (.iload_n 2, 1) := by decide +kernel
theorem dX10_power_7 : decode cX10_power 7 = .ok (.iconst 1, 1) := by decide +kernel
theorem dX10_power_8 : decode cX10_power 8 = .ok (.bipush 60, 2) := by decide +kernel
theorem dX10_power_10 : decode cX10_power 10 = .ok (.invokestatic 73, 3) := by decide +kernel
theorem dX10_power_13 : decode cX10_power 13 = .ok (.aload_n 0, 1) := by decide +kernel
theorem dX10_power_14 : decode cX10_power 14 = .ok (.iload_n 1, 1) := by decide +kernel
theorem dX10_power_15 : decode cX10_power 15 = .ok (.invokevirtual 138, 3) := by decide +kernel
theorem dX10_power_18 : decode cX10_power 18 = .ok (.invokevirtual 141, 3) := by decide +kernel
theorem dX10_power_21 : decode cX10_power 21 = .ok (.istore_n 3, 1) := by decide +kernel
theorem dX10_power_22 : decode cX10_power 22 = .ok (.iload_n 3, 1) := by decide +kernel
theorem dX10_power_23 : decode cX10_power 23 = .ok (.ifCond .eq 7, 3) := by decide +kernel
theorem dX10_power_26 : decode cX10_power 26 = .ok (.iload_n 3, 1) := by decide +kernel
theorem dX10_power_27 : decode cX10_power 27 = .ok (.goto 12, 3) := by decide +kernel
theorem dX10_power_30 : decode cX10_power 30 = .ok (.aload_n 0, 1) := by decide +kernel
theorem dX10_power_31 : decode cX10_power 31 = .ok (.getfield 47, 3) := by decide +kernel
theorem dX10_power_34 : decode cX10_power 34 = .ok (.iload_n 1, 1) := by decide +kernel
theorem dX10_power_35 : decode cX10_power 35 = .ok (.iload_n 2, 1) := by decide +kernel
theorem dX10_power_36 : decode cX10_power 36 = .ok (.invokevirtual 236, 3) := by decide +kernel
theorem dX10_power_39 : decode cX10_power 39 = .ok (.ireturn, 1) := by decide +kernel
set_option maxRecDepth 20000 in
theorem ggX10_voids_X10_outside : GoodIn wsX10_voids wsX10_outside := goodIn_r _ [5] (by decide +kernel) (by decide +kernel)
set_option maxRecDepth 20000 in
theorem gX10_voids_X10_outside : GoodIn wsX10_voids (va_wsS RX10 73 yX10_outside wsX10_outside) := goodIn_app (goodIn_of _ (by decide +kernel)) ggX10_voids_X10_outside
set_option maxRecDepth 20000 in
theorem ggX10_voids_X10_refused : GoodIn wsX10_voids wsX10_refused := goodIn_r _ [9, 10, 11, 12, 4, 13, 14, 146, 147, 148, 149, 150, 151, 152, 153] (by decide +kernel) (by decide +kernel)
set_option maxRecDepth 20000 in
theorem gX10_voids_X10_refused : GoodIn wsX10_voids (wsV RX10 129 RX10 yX10_refused wsX10_refused) := goodIn_app (goodIn_of _ (by decide +kernel)) ggX10_voids_X10_refused
set_option maxRecDepth 20000 in
theorem ggX10_voids_X3_debtsVoid : GoodIn wsX10_voids wsX3_debtsVoid := goodIn_r _ [19, 20, 21, 22, 23, 24, 25, 26, 27, 28, 29, 30, 31, 32, 18, 33, 34, 35, 36, 37, 38, 39, 40, 41, 42, 43, 44, 45, 46, 47, 48, 49, 50, 51, 52, 53, 54, 55, 56, 57, 58, 59, 60, 61, 62, 63, 64, 65, 66, 67, 68, 69, 70, 71, 72, 73, 74, 75, 76, 77, 78, 79, 80, 81, 82, 83, 84, 85, 86, 87, 88, 89, 90, 91, 92, 93, 94, 95, 96, 97, 98, 99, 100, 101, 102, 103, 104, 105, 106, 107, 108, 109, 110, 111, 112, 113, 114, 115, 116, 117, 118, 119, 120, 121, 122, 123, 124, 125, 126, 127, 128, 129, 130, 131, 132, 133, 134, 135, 136, 137, 138, 139, 140, 141, 142, 143, 144, 145, 154, 155, 156, 157, 158, 159, 160, 161, 162, 163, 164, 165, 166, 167, 168, 169] (by decide +kernel) (by decide +kernel)
set_option maxRecDepth 20000 in
theorem gX10_voids_X3_debtsVoid : GoodIn wsX10_voids (wsV RX10 239 RX3 yX3_debtsVoid wsX3_debtsVoid) := goodIn_app (goodIn_of _ (by decide +kernel)) ggX10_voids_X3_debtsVoid
theorem dX10_voids_0 : decode cX10_voids 0 = .ok (.aload_n 0, 1) := by decide +kernel
theorem dX10_voids_1 : decode cX10_voids 1 = .ok (.iload_n 1, 1) := by decide +kernel
theorem dX10_voids_2 : decode cX10_voids 2 = .ok (.iconst 1, 1) := by decide +kernel
theorem dX10_voids_3 : decode cX10_voids 3 = .ok (.bipush 99, 2) := by decide +kernel
theorem dX10_voids_5 : decode cX10_voids 5 = .ok (.invokestatic 73, 3) := by decide +kernel
theorem dX10_voids_8 : decode cX10_voids 8 = .ok (.invokevirtual 129, 3) := by decide +kernel
theorem dX10_voids_11 : decode cX10_voids 11 = .ok (.istore_n 2, 1) := by decide +kernel
theorem dX10_voids_12 : decode cX10_voids 12 = .ok (.iload_n 2, 1) := by decide +kernel
theorem dX10_voids_13 : decode cX10_voids 13 = .ok (.ifCond .eq 7, 3) := by decide +kernel
theorem dX10_voids_16 : decode cX10_voids 16 = .ok (.iload_n 2, 1) := by decide +kernel
theorem dX10_voids_17 : decode cX10_voids 17 = .ok (.goto 11, 3) := by decide +kernel
theorem dX10_voids_20 : decode cX10_voids 20 = .ok (.aload_n 0, 1) := by decide +kernel
theorem dX10_voids_21 : decode cX10_voids 21 = .ok (.getfield 47, 3) := by decide +kernel
theorem dX10_voids_24 : decode cX10_voids 24 = .ok (.iload_n 1, 1) := by decide +kernel
theorem dX10_voids_25 : decode cX10_voids 25 = .ok (.invokevirtual 239, 3) := by decide +kernel
theorem dX10_voids_28 : decode cX10_voids 28 = .ok (.ireturn, 1) := by decide +kernel
set_option maxRecDepth 20000 in
theorem ggX10_hill_X8_memoryOverTheHill : GoodIn wsX10_hill wsX8_memoryOverTheHill := goodIn_r _ [6, 7, 8, 9, 10, 11, 5, 12, 13, 22, 23, 24, 25, 26, 27, 28, 29, 30] (by decide +kernel) (by decide +kernel)
set_option maxRecDepth 20000 in
theorem gX10_hill_X8_memoryOverTheHill : GoodIn wsX10_hill (wsV RX10 242 RX8 yX8_memoryOverTheHill wsX8_memoryOverTheHill) := goodIn_app (goodIn_of _ (by decide +kernel)) ggX10_hill_X8_memoryOverTheHill
theorem dX10_hill_0 : decode cX10_hill 0 = .ok (.aload_n 0, 1) := by decide +kernel
theorem dX10_hill_1 : decode cX10_hill 1 = .ok (.getfield 32, 3) := by decide +kernel
theorem dX10_hill_4 : decode cX10_hill 4 = .ok (.invokevirtual 242, 3) := by decide +kernel
theorem dX10_hill_7 : decode cX10_hill 7 = .ok (.ireturn, 1) := by decide +kernel
set_option maxRecDepth 20000 in
theorem ggX10_two_X10_notTwo : GoodIn wsX10_two wsX10_notTwo := goodIn_r _ [6, 7, 8, 9, 10, 11, 12, 13, 14, 15, 16, 17, 181, 182, 183, 184, 185, 186, 187, 188, 189, 190, 191, 192, 193, 194, 195, 196, 197] (by decide +kernel) (by decide +kernel)
set_option maxRecDepth 20000 in
theorem gX10_two_X10_notTwo : GoodIn wsX10_two (wsV RX10 126 RX10 yX10_notTwo wsX10_notTwo) := goodIn_app (goodIn_of _ (by decide +kernel)) ggX10_two_X10_notTwo
set_option maxRecDepth 20000 in
theorem ggX10_two_X10_outside : GoodIn wsX10_two wsX10_outside := goodIn_r _ [20] (by decide +kernel) (by decide +kernel)
set_option maxRecDepth 20000 in
theorem gX10_two_X10_outside : GoodIn wsX10_two (va_wsS RX10 73 yX10_outside wsX10_outside) := goodIn_app (goodIn_of _ (by decide +kernel)) ggX10_two_X10_outside
set_option maxRecDepth 20000 in
theorem ggX10_two_X10_forgotten : GoodIn wsX10_two wsX10_forgotten := goodIn_r _ [24, 7, 25, 26, 14, 15, 11, 16, 17, 181, 182, 183, 184, 185, 186, 187, 188, 189, 190, 191, 192, 193, 194, 195, 196, 197] (by decide +kernel) (by decide +kernel)
set_option maxRecDepth 20000 in
theorem gX10_two_X10_forgotten : GoodIn wsX10_two (wsV RX10 138 RX10 yX10_forgotten wsX10_forgotten) := goodIn_app (goodIn_of _ (by decide +kernel)) ggX10_two_X10_forgotten
set_option maxRecDepth 20000 in
theorem ggX10_two_X10_refused___ : GoodIn wsX10_two wsX10_refused___ := goodIn_r _ [30, 31, 32, 5, 33, 34, 35, 36, 37, 38, 181, 182, 183, 184, 185, 186, 187, 188] (by decide +kernel) (by decide +kernel)
set_option maxRecDepth 20000 in
theorem gX10_two_X10_refused___ : GoodIn wsX10_two (wsV RX10 245 RX10 yX10_refused___ wsX10_refused___) := goodIn_app (goodIn_of _ (by decide +kernel)) ggX10_two_X10_refused___
set_option maxRecDepth 20000 in
theorem ggX10_two_X3_settled : GoodIn wsX10_two wsX3_settled := goodIn_r _ [43, 44, 45, 46, 47, 48, 42, 49, 50, 51, 52, 53, 54, 55, 56, 57, 58, 11, 59, 60, 61, 62, 63, 64, 65, 66, 67, 68, 17, 69, 70, 71, 72, 73, 74, 75, 76, 77, 78, 79, 80, 81, 82, 13, 14, 15, 16, 83, 84, 85, 86, 87, 88, 89, 90, 91, 92, 93, 94, 95, 96, 97, 98, 99, 100, 101, 102, 103, 104, 105, 106, 107, 108, 109, 110, 111, 112, 113, 114, 115, 116, 117, 118, 119, 120, 121, 122, 123, 124, 125, 126, 127, 128, 129, 130, 131, 132, 133, 134, 135, 136, 137, 138, 139, 140, 141, 142, 143, 144, 145, 146, 147, 148, 149, 150, 151, 152, 153, 154, 155, 156, 157, 158, 159, 160, 161, 162, 163, 164, 165, 166, 167, 168, 169, 170, 171, 172, 173, 174, 175, 176, 177, 178, 179, 180, 198, 199, 200, 201, 202, 203, 204, 189, 190, 191, 192, 193, 194, 195, 196, 197] (by decide +kernel) (by decide +kernel)
set_option maxRecDepth 20000 in
theorem gX10_two_X3_settled : GoodIn wsX10_two (wsV RX10 248 RX3 yX3_settled wsX3_settled) := goodIn_app (goodIn_of _ (by decide +kernel)) ggX10_two_X3_settled
theorem dX10_two_0 : decode cX10_two 0 = .ok (.aload_n 0, 1) := by decide +kernel
theorem dX10_two_1 : decode cX10_two 1 = .ok (.aload_n 0, 1) := by decide +kernel
theorem dX10_two_2 : decode cX10_two 2 = .ok (.iload_n 1, 1) := by decide +kernel
theorem dX10_two_3 : decode cX10_two 3 = .ok (.iload_n 2, 1) := by decide +kernel
theorem dX10_two_4 : decode cX10_two 4 = .ok (.invokevirtual 126, 3) := by decide +kernel
theorem dX10_two_7 : decode cX10_two 7 = .ok (.iload_n 3, 1) := by decide +kernel
theorem dX10_two_8 : decode cX10_two 8 = .ok (.iconst 0, 1) := by decide +kernel
theorem dX10_two_9 : decode cX10_two 9 = .ok (.bipush 30, 2) := by decide +kernel
theorem dX10_two_11 : decode cX10_two 11 = .ok (.invokestatic 73, 3) := by decide +kernel
theorem dX10_two_14 : decode cX10_two 14 = .ok (.aload_n 0, 1) := by decide +kernel
theorem dX10_two_15 : decode cX10_two 15 = .ok (.iload_n 1, 1) := by decide +kernel
theorem dX10_two_16 : decode cX10_two 16 = .ok (.invokevirtual 138, 3) := by decide +kernel
theorem dX10_two_19 : decode cX10_two 19 = .ok (.aload_n 0, 1) := by decide +kernel
theorem dX10_two_20 : decode cX10_two 20 = .ok (.iload_n 2, 1) := by decide +kernel
theorem dX10_two_21 : decode cX10_two 21 = .ok (.invokevirtual 138, 3) := by decide +kernel
theorem dX10_two_24 : decode cX10_two 24 = .ok (.invokevirtual 245, 3) := by decide +kernel
theorem dX10_two_27 : decode cX10_two 27 = .ok (.istore 4, 2) := by decide +kernel
theorem dX10_two_29 : decode cX10_two 29 = .ok (.iload 4, 2) := by decide +kernel
theorem dX10_two_31 : decode cX10_two 31 = .ok (.ifCond .eq 8, 3) := by decide +kernel
theorem dX10_two_34 : decode cX10_two 34 = .ok (.iload 4, 2) := by decide +kernel
theorem dX10_two_36 : decode cX10_two 36 = .ok (.goto 13, 3) := by decide +kernel
theorem dX10_two_39 : decode cX10_two 39 = .ok (.aload_n 0, 1) := by decide +kernel
theorem dX10_two_40 : decode cX10_two 40 = .ok (.getfield 47, 3) := by decide +kernel
theorem dX10_two_43 : decode cX10_two 43 = .ok (.iload_n 1, 1) := by decide +kernel
theorem dX10_two_44 : decode cX10_two 44 = .ok (.iload_n 2, 1) := by decide +kernel
theorem dX10_two_45 : decode cX10_two 45 = .ok (.iload_n 3, 1) := by decide +kernel
theorem dX10_two_46 : decode cX10_two 46 = .ok (.invokevirtual 248, 3) := by decide +kernel
theorem dX10_two_49 : decode cX10_two 49 = .ok (.ireturn, 1) := by decide +kernel
set_option maxRecDepth 20000 in
theorem ggX10_feast_X10_nobody : GoodIn wsX10_feast wsX10_nobody := goodIn_r _ [7, 8, 9, 10, 11, 12, 13, 14, 170, 171, 172, 173, 174, 175, 176, 177, 178, 179, 180, 181, 182, 183, 184, 185, 186] (by decide +kernel) (by decide +kernel)
set_option maxRecDepth 20000 in
theorem gX10_feast_X10_nobody : GoodIn wsX10_feast (wsV RX10 100 RX10 yX10_nobody wsX10_nobody) := goodIn_app (goodIn_of _ (by decide +kernel)) ggX10_feast_X10_nobody
set_option maxRecDepth 20000 in
theorem ggX10_feast_X10_wrongWhat : GoodIn wsX10_feast wsX10_wrongWhat := goodIn_r _ [17] (by decide +kernel) (by decide +kernel)
set_option maxRecDepth 20000 in
theorem gX10_feast_X10_wrongWhat : GoodIn wsX10_feast (va_wsS RX10 103 yX10_wrongWhat wsX10_wrongWhat) := goodIn_app (goodIn_of _ (by decide +kernel)) ggX10_feast_X10_wrongWhat
set_option maxRecDepth 20000 in
theorem ggX10_feast_X10_refused___ : GoodIn wsX10_feast wsX10_refused___ := goodIn_r _ [21, 22, 23, 6, 24, 25, 26, 27, 28, 29, 170, 171, 172, 173, 174, 175, 176, 177] (by decide +kernel) (by decide +kernel)
set_option maxRecDepth 20000 in
theorem gX10_feast_X10_refused___ : GoodIn wsX10_feast (wsV RX10 245 RX10 yX10_refused___ wsX10_refused___) := goodIn_app (goodIn_of _ (by decide +kernel)) ggX10_feast_X10_refused___
set_option maxRecDepth 20000 in
theorem ggX10_feast_X3_waysHere : GoodIn wsX10_feast wsX3_waysHere := goodIn_r _ [34, 35, 36, 37, 33, 38, 39, 40, 41, 42, 43, 44, 45, 46, 47, 48, 12, 49, 50, 51, 52, 53, 54, 55, 56, 57, 58, 14, 59, 60, 61, 62, 63, 64, 65, 66, 67, 68, 69, 70, 71, 72, 73, 74, 75, 76, 77, 78, 79, 80, 81, 82, 83, 84, 85, 86, 87, 88, 89, 90, 91, 92, 93, 94, 95, 96, 97, 98, 99, 100, 101, 102, 103, 104, 105, 106, 107, 108, 109, 110, 111, 112, 113, 114, 115, 116, 117, 118, 119, 120, 121, 122, 123, 124, 125, 126, 127, 128, 129, 130, 131, 132, 133, 134, 135, 136, 137, 138, 139, 140, 141, 142, 143, 144, 145, 146, 147, 148, 149, 150, 151, 152, 153, 154, 155, 156, 157, 158, 159, 160, 161, 6, 162, 187, 188, 189, 190, 191, 192, 193, 178, 179, 180, 181, 182, 183, 184, 185, 186] (by decide +kernel) (by decide +kernel)
set_option maxRecDepth 20000 in
theorem gX10_feast_X3_waysHere : GoodIn wsX10_feast (wsV RX10 253 RX3 yX3_waysHere wsX3_waysHere) := goodIn_app (goodIn_of _ (by decide +kernel)) ggX10_feast_X3_waysHere
set_option maxRecDepth 20000 in
theorem ggX10_feast_X10_raised : GoodIn wsX10_feast wsX10_raised := goodIn_r _ [162] (by decide +kernel) (by decide +kernel)
set_option maxRecDepth 20000 in
theorem gX10_feast_X10_raised : GoodIn wsX10_feast (va_wsS RX10 257 yX10_raised wsX10_raised) := goodIn_app (goodIn_of _ (by decide +kernel)) ggX10_feast_X10_raised
set_option maxRecDepth 20000 in
theorem ggX10_feast_X10_partOf : GoodIn wsX10_feast wsX10_partOf := goodIn_r _ [166, 167, 168, 6, 169] (by decide +kernel) (by decide +kernel)
set_option maxRecDepth 20000 in
theorem gX10_feast_X10_partOf : GoodIn wsX10_feast (va_wsS RX10 261 yX10_partOf wsX10_partOf) := goodIn_app (goodIn_of _ (by decide +kernel)) ggX10_feast_X10_partOf
theorem dX10_feast_0 : decode cX10_feast 0 = .ok (.iload_n 2, 1) := by decide +kernel
theorem dX10_feast_1 : decode cX10_feast 1 = .ok (.ifCond .lt 8, 3) := by decide +kernel
theorem dX10_feast_4 : decode cX10_feast 4 = .ok (.iload_n 3, 1) := by decide +kernel
theorem dX10_feast_5 : decode cX10_feast 5 = .ok (.iconst 2, 1) := by decide +kernel
theorem dX10_feast_6 : decode cX10_feast 6 = .ok (.if_icmp .ge 8, 3) := by decide +kernel
theorem dX10_feast_9 : decode cX10_feast 9 = .ok (.bipush (-4), 2) := by decide +kernel
theorem dX10_feast_11 : decode cX10_feast 11 = .ok (.goto 4, 3) := by decide +kernel
theorem dX10_feast_14 : decode cX10_feast 14 = .ok (.iconst 0, 1) := by decide +kernel
theorem dX10_feast_15 : decode cX10_feast 15 = .ok (.istore 5, 2) := by decide +kernel
theorem dX10_feast_17 : decode cX10_feast 17 = .ok (.iload_n 2, 1) := by decide +kernel
theorem dX10_feast_18 : decode cX10_feast 18 = .ok (.bipush 7, 2) := by decide +kernel
theorem dX10_feast_20 : decode cX10_feast 20 = .ok (.if_icmp .gt 9, 3) := by decide +kernel
theorem dX10_feast_23 : decode cX10_feast 23 = .ok (.iload_n 3, 1) := by decide +kernel
theorem dX10_feast_24 : decode cX10_feast 24 = .ok (.bipush 20, 2) := by decide +kernel
theorem dX10_feast_26 : decode cX10_feast 26 = .ok (.if_icmp .le 8, 3) := by decide +kernel
theorem dX10_feast_29 : decode cX10_feast 29 = .ok (.bipush (-6), 2) := by decide +kernel
theorem dX10_feast_31 : decode cX10_feast 31 = .ok (.goto 4, 3) := by decide +kernel
theorem dX10_feast_34 : decode cX10_feast 34 = .ok (.iconst 0, 1) := by decide +kernel
theorem dX10_feast_35 : decode cX10_feast 35 = .ok (.istore 6, 2) := by decide +kernel
theorem dX10_feast_37 : decode cX10_feast 37 = .ok (.aload_n 0, 1) := by decide +kernel
theorem dX10_feast_38 : decode cX10_feast 38 = .ok (.aload_n 0, 1) := by decide +kernel
theorem dX10_feast_39 : decode cX10_feast 39 = .ok (.iload_n 1, 1) := by decide +kernel
theorem dX10_feast_40 : decode cX10_feast 40 = .ok (.invokevirtual 100, 3) := by decide +kernel
theorem dX10_feast_43 : decode cX10_feast 43 = .ok (.iload 5, 2) := by decide +kernel
theorem dX10_feast_45 : decode cX10_feast 45 = .ok (.iload 6, 2) := by decide +kernel
theorem dX10_feast_47 : decode cX10_feast 47 = .ok (.iload 4, 2) := by decide +kernel
theorem dX10_feast_49 : decode cX10_feast 49 = .ok (.iconst 1, 1) := by decide +kernel
theorem dX10_feast_50 : decode cX10_feast 50 = .ok (.invokestatic 103, 3) := by decide +kernel
theorem dX10_feast_53 : decode cX10_feast 53 = .ok (.invokevirtual 245, 3) := by decide +kernel
theorem dX10_feast_56 : decode cX10_feast 56 = .ok (.istore 7, 2) := by decide +kernel
theorem dX10_feast_58 : decode cX10_feast 58 = .ok (.iload 7, 2) := by decide +kernel
theorem dX10_feast_60 : decode cX10_feast 60 = .ok (.ifCond .eq 11, 3) := by decide +kernel
theorem dX10_feast_63 : decode cX10_feast 63 = .ok (.ldc2_w 251, 3) := by decide +kernel
theorem dX10_feast_66 : decode cX10_feast 66 = .ok (.iload 7, 2) := by decide +kernel
theorem dX10_feast_68 : decode cX10_feast 68 = .ok (.i2l, 1) := by decide +kernel
theorem dX10_feast_69 : decode cX10_feast 69 = .ok (.lsub, 1) := by decide +kernel
theorem dX10_feast_70 : decode cX10_feast 70 = .ok (.lreturn, 1) := by decide +kernel
theorem dX10_feast_71 : decode cX10_feast 71 = .ok (.aload_n 0, 1) := by decide +kernel
theorem dX10_feast_72 : decode cX10_feast 72 = .ok (.getfield 47, 3) := by decide +kernel
theorem dX10_feast_75 : decode cX10_feast 75 = .ok (.iload_n 1, 1) := by decide +kernel
theorem dX10_feast_76 : decode cX10_feast 76 = .ok (.iload_n 2, 1) := by decide +kernel
theorem dX10_feast_77 : decode cX10_feast 77 = .ok (.iload_n 3, 1) := by decide +kernel
theorem dX10_feast_78 : decode cX10_feast 78 = .ok (.invokevirtual 253, 3) := by decide +kernel
theorem dX10_feast_81 : decode cX10_feast 81 = .ok (.iload_n 3, 1) := by decide +kernel
theorem dX10_feast_82 : decode cX10_feast 82 = .ok (.iload_n 2, 1) := by decide +kernel
theorem dX10_feast_83 : decode cX10_feast 83 = .ok (.invokestatic 257, 3) := by decide +kernel
theorem dX10_feast_86 : decode cX10_feast 86 = .ok (.iload 4, 2) := by decide +kernel
theorem dX10_feast_88 : decode cX10_feast 88 = .ok (.invokestatic 261, 3) := by decide +kernel
theorem dX10_feast_91 : decode cX10_feast 91 = .ok (.lreturn, 1) := by decide +kernel
set_option maxRecDepth 20000 in
theorem ggX10_mean_X10_wrongWhat : GoodIn wsX10_mean wsX10_wrongWhat := goodIn_r _ [10] (by decide +kernel) (by decide +kernel)
set_option maxRecDepth 20000 in
theorem gX10_mean_X10_wrongWhat : GoodIn wsX10_mean (va_wsS RX10 103 yX10_wrongWhat wsX10_wrongWhat) := goodIn_app (goodIn_of _ (by decide +kernel)) ggX10_mean_X10_wrongWhat
set_option maxRecDepth 20000 in
theorem ggX10_mean_X10_refused : GoodIn wsX10_mean wsX10_refused := goodIn_r _ [14, 15, 16, 17, 9, 18, 19, 53, 54, 55, 56, 57, 58, 59, 60] (by decide +kernel) (by decide +kernel)
set_option maxRecDepth 20000 in
theorem gX10_mean_X10_refused : GoodIn wsX10_mean (wsV RX10 129 RX10 yX10_refused wsX10_refused) := goodIn_app (goodIn_of _ (by decide +kernel)) ggX10_mean_X10_refused
set_option maxRecDepth 20000 in
theorem ggX10_mean_X8_knownTogether : GoodIn wsX10_mean wsX8_knownTogether := goodIn_r _ [24, 25, 26, 27, 28, 29, 23, 30, 31, 61, 62, 63, 64, 65, 66, 67, 68, 69] (by decide +kernel) (by decide +kernel)
set_option maxRecDepth 20000 in
theorem gX10_mean_X8_knownTogether : GoodIn wsX10_mean (wsV RX10 265 RX8 yX8_knownTogether wsX8_knownTogether) := goodIn_app (goodIn_of _ (by decide +kernel)) ggX10_mean_X8_knownTogether
set_option maxRecDepth 20000 in
theorem ggX10_mean_X8_countHere : GoodIn wsX10_mean wsX8_countHere := goodIn_r _ [35, 36, 37, 38, 23, 39, 25, 26, 40, 41, 42, 43, 44, 45, 46, 61, 62, 63, 64, 65, 66, 67, 68, 69] (by decide +kernel) (by decide +kernel)
set_option maxRecDepth 20000 in
theorem gX10_mean_X8_countHere : GoodIn wsX10_mean (wsV RX10 154 RX8 yX8_countHere wsX8_countHere) := goodIn_app (goodIn_of _ (by decide +kernel)) ggX10_mean_X8_countHere
set_option maxRecDepth 20000 in
theorem ggX10_mean_X10_partOf : GoodIn wsX10_mean wsX10_partOf := goodIn_r _ [49, 50, 51, 9, 52] (by decide +kernel) (by decide +kernel)
set_option maxRecDepth 20000 in
theorem gX10_mean_X10_partOf : GoodIn wsX10_mean (va_wsS RX10 261 yX10_partOf wsX10_partOf) := goodIn_app (goodIn_of _ (by decide +kernel)) ggX10_mean_X10_partOf
theorem dX10_mean_0 : decode cX10_mean 0 = .ok (.aload_n 0, 1) := by decide +kernel
theorem dX10_mean_1 : decode cX10_mean 1 = .ok (.iload_n 1, 1) := by decide +kernel
theorem dX10_mean_2 : decode cX10_mean 2 = .ok (.iconst 1, 1) := by decide +kernel
theorem dX10_mean_3 : decode cX10_mean 3 = .ok (.invokestatic 103, 3) := by decide +kernel
theorem dX10_mean_6 : decode cX10_mean 6 = .ok (.invokevirtual 129, 3) := by decide +kernel
theorem dX10_mean_9 : decode cX10_mean 9 = .ok (.istore_n 2, 1) := by decide +kernel
theorem dX10_mean_10 : decode cX10_mean 10 = .ok (.iload_n 2, 1) := by decide +kernel
theorem dX10_mean_11 : decode cX10_mean 11 = .ok (.ifCond .eq 10, 3) := by decide +kernel
theorem dX10_mean_14 : decode cX10_mean 14 = .ok (.ldc2_w 251, 3) := by decide +kernel
theorem dX10_mean_17 : decode cX10_mean 17 = .ok (.iload_n 2, 1) := by decide +kernel
theorem dX10_mean_18 : decode cX10_mean 18 = .ok (.i2l, 1) := by decide +kernel
theorem dX10_mean_19 : decode cX10_mean 19 = .ok (.lsub, 1) := by decide +kernel
theorem dX10_mean_20 : decode cX10_mean 20 = .ok (.lreturn, 1) := by decide +kernel
theorem dX10_mean_21 : decode cX10_mean 21 = .ok (.aload_n 0, 1) := by decide +kernel
theorem dX10_mean_22 : decode cX10_mean 22 = .ok (.getfield 32, 3) := by decide +kernel
theorem dX10_mean_25 : decode cX10_mean 25 = .ok (.invokevirtual 265, 3) := by decide +kernel
theorem dX10_mean_28 : decode cX10_mean 28 = .ok (.i2l, 1) := by decide +kernel
theorem dX10_mean_29 : decode cX10_mean 29 = .ok (.iconst 1, 1) := by decide +kernel
theorem dX10_mean_30 : decode cX10_mean 30 = .ok (.aload_n 0, 1) := by decide +kernel
theorem dX10_mean_31 : decode cX10_mean 31 = .ok (.getfield 32, 3) := by decide +kernel
theorem dX10_mean_34 : decode cX10_mean 34 = .ok (.invokevirtual 154, 3) := by decide +kernel
theorem dX10_mean_37 : decode cX10_mean 37 = .ok (.invokestatic 268, 3) := by decide +kernel
theorem dX10_mean_40 : decode cX10_mean 40 = .ok (.i2l, 1) := by decide +kernel
theorem dX10_mean_41 : decode cX10_mean 41 = .ok (.iload_n 1, 1) := by decide +kernel
theorem dX10_mean_42 : decode cX10_mean 42 = .ok (.invokestatic 261, 3) := by decide +kernel
theorem dX10_mean_45 : decode cX10_mean 45 = .ok (.lreturn, 1) := by decide +kernel
set_option maxRecDepth 20000 in
theorem ggX10_whatIs_X10_notTwo : GoodIn wsX10_whatIs wsX10_notTwo := goodIn_r _ [7, 8, 9, 10, 11, 12, 13, 14, 15, 16, 17, 18, 165, 166, 167, 168, 169, 170, 171, 172, 173, 174, 175, 176, 177, 178, 179, 180, 181] (by decide +kernel) (by decide +kernel)
set_option maxRecDepth 20000 in
theorem gX10_whatIs_X10_notTwo : GoodIn wsX10_whatIs (wsV RX10 126 RX10 yX10_notTwo wsX10_notTwo) := goodIn_app (goodIn_of _ (by decide +kernel)) ggX10_whatIs_X10_notTwo
set_option maxRecDepth 20000 in
theorem ggX10_whatIs_X10_wrongWhat : GoodIn wsX10_whatIs wsX10_wrongWhat := goodIn_r _ [21] (by decide +kernel) (by decide +kernel)
set_option maxRecDepth 20000 in
theorem gX10_whatIs_X10_wrongWhat : GoodIn wsX10_whatIs (va_wsS RX10 103 yX10_wrongWhat wsX10_wrongWhat) := goodIn_app (goodIn_of _ (by decide +kernel)) ggX10_whatIs_X10_wrongWhat
set_option maxRecDepth 20000 in
theorem ggX10_whatIs_X10_refused_ : GoodIn wsX10_whatIs wsX10_refused_ := goodIn_r _ [25, 26, 27, 6, 28, 29, 30, 31, 32, 33, 165, 166, 167, 168, 169, 170, 171, 172] (by decide +kernel) (by decide +kernel)
set_option maxRecDepth 20000 in
theorem gX10_whatIs_X10_refused_ : GoodIn wsX10_whatIs (wsV RX10 81 RX10 yX10_refused_ wsX10_refused_) := goodIn_app (goodIn_of _ (by decide +kernel)) ggX10_whatIs_X10_refused_
set_option maxRecDepth 20000 in
theorem ggX10_whatIs_X3_kindsThatFit : GoodIn wsX10_whatIs wsX3_kindsThatFit := goodIn_r _ [38, 39, 40, 41, 42, 43, 37, 44, 45, 46, 47, 48, 12, 49, 50, 51, 52, 53, 54, 55, 56, 57, 58, 18, 59, 60, 61, 62, 63, 64, 65, 66, 67, 68, 69, 70, 71, 72, 73, 74, 75, 76, 77, 78, 79, 80, 81, 82, 83, 84, 85, 86, 87, 88, 89, 90, 91, 92, 93, 94, 95, 96, 97, 98, 99, 100, 101, 102, 103, 104, 105, 106, 107, 108, 109, 110, 111, 112, 113, 114, 115, 116, 117, 118, 119, 120, 121, 122, 123, 124, 125, 126, 127, 128, 129, 130, 131, 132, 133, 134, 135, 136, 137, 138, 139, 140, 141, 142, 143, 144, 145, 146, 147, 148, 149, 150, 151, 152, 153, 154, 155, 156, 157, 158, 159, 182, 183, 184, 185, 186, 187, 188, 173, 174, 175, 176, 177, 178, 179, 180, 181, 189, 190] (by decide +kernel) (by decide +kernel)
set_option maxRecDepth 20000 in
theorem gX10_whatIs_X3_kindsThatFit : GoodIn wsX10_whatIs (wsV RX10 271 RX3 yX3_kindsThatFit wsX3_kindsThatFit) := goodIn_app (goodIn_of _ (by decide +kernel)) ggX10_whatIs_X3_kindsThatFit
set_option maxRecDepth 20000 in
theorem ggX10_whatIs_X3_figuresThatFit : GoodIn wsX10_whatIs wsX3_figuresThatFit := goodIn_r _ [163, 39, 164, 41, 42, 43, 37, 44, 45, 46, 47, 48, 12, 49, 50, 51, 52, 53, 54, 55, 56, 57, 58, 18, 59, 60, 61, 62, 63, 64, 65, 66, 67, 68, 69, 70, 71, 72, 73, 74, 75, 76, 77, 78, 79, 80, 81, 82, 83, 84, 85, 86, 87, 88, 89, 90, 91, 92, 93, 94, 95, 96, 97, 98, 99, 100, 101, 102, 103, 104, 105, 106, 107, 108, 109, 110, 111, 112, 113, 114, 115, 116, 117, 118, 119, 120, 121, 122, 123, 124, 125, 126, 127, 128, 129, 130, 131, 132, 133, 134, 135, 136, 137, 138, 139, 140, 141, 142, 143, 144, 145, 146, 147, 148, 149, 150, 151, 152, 153, 154, 155, 156, 157, 158, 159, 182, 183, 184, 185, 186, 187, 188, 173, 174, 175, 176, 177, 178, 179, 180, 181, 189, 190] (by decide +kernel) (by decide +kernel)
set_option maxRecDepth 20000 in
theorem gX10_whatIs_X3_figuresThatFit : GoodIn wsX10_whatIs (wsV RX10 275 RX3 yX3_figuresThatFit wsX3_figuresThatFit) := goodIn_app (goodIn_of _ (by decide +kernel)) ggX10_whatIs_X3_figuresThatFit
theorem dX10_whatIs_0 : decode cX10_whatIs 0 = .ok (.aload_n 0, 1) := by decide +kernel
theorem dX10_whatIs_1 : decode cX10_whatIs 1 = .ok (.aload_n 0, 1) := by decide +kernel
theorem dX10_whatIs_2 : decode cX10_whatIs 2 = .ok (.iload_n 1, 1) := by decide +kernel
theorem dX10_whatIs_3 : decode cX10_whatIs 3 = .ok (.iload_n 2, 1) := by decide +kernel
theorem dX10_whatIs_4 : decode cX10_whatIs 4 = .ok (.invokevirtual 126, 3) := by decide +kernel
theorem dX10_whatIs_7 : decode cX10_whatIs 7 = .ok (.iload_n 3, 1) := by decide +kernel
theorem dX10_whatIs_8 : decode cX10_whatIs 8 = .ok (.iconst 1, 1) := by decide +kernel
theorem dX10_whatIs_9 : decode cX10_whatIs 9 = .ok (.invokestatic 103, 3) := by decide +kernel
theorem dX10_whatIs_12 : decode cX10_whatIs 12 = .ok (.invokevirtual 81, 3) := by decide +kernel
theorem dX10_whatIs_15 : decode cX10_whatIs 15 = .ok (.istore 4, 2) := by decide +kernel
theorem dX10_whatIs_17 : decode cX10_whatIs 17 = .ok (.iload 4, 2) := by decide +kernel
theorem dX10_whatIs_19 : decode cX10_whatIs 19 = .ok (.ifCond .eq 6, 3) := by decide +kernel
theorem dX10_whatIs_22 : decode cX10_whatIs 22 = .ok (.iload 4, 2) := by decide +kernel
theorem dX10_whatIs_24 : decode cX10_whatIs 24 = .ok (.ireturn, 1) := by decide +kernel
theorem dX10_whatIs_25 : decode cX10_whatIs 25 = .ok (.iload_n 3, 1) := by decide +kernel
theorem dX10_whatIs_26 : decode cX10_whatIs 26 = .ok (.ifCond .ne 19, 3) := by decide +kernel
theorem dX10_whatIs_29 : decode cX10_whatIs 29 = .ok (.aload_n 0, 1) := by decide +kernel
theorem dX10_whatIs_30 : decode cX10_whatIs 30 = .ok (.getfield 47, 3) := by decide +kernel
theorem dX10_whatIs_33 : decode cX10_whatIs 33 = .ok (.iload_n 1, 1) := by decide +kernel
theorem dX10_whatIs_34 : decode cX10_whatIs 34 = .ok (.iload_n 2, 1) := by decide +kernel
theorem dX10_whatIs_35 : decode cX10_whatIs 35 = .ok (.aload_n 0, 1) := by decide +kernel
theorem dX10_whatIs_36 : decode cX10_whatIs 36 = .ok (.getfield 61, 3) := by decide +kernel
theorem dX10_whatIs_39 : decode cX10_whatIs 39 = .ok (.invokevirtual 271, 3) := by decide +kernel
theorem dX10_whatIs_42 : decode cX10_whatIs 42 = .ok (.goto 16, 3) := by decide +kernel
theorem dX10_whatIs_45 : decode cX10_whatIs 45 = .ok (.aload_n 0, 1) := by decide +kernel
theorem dX10_whatIs_46 : decode cX10_whatIs 46 = .ok (.getfield 47, 3) := by decide +kernel
