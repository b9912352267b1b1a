theorem dX10_whatIs_49 : decode cX10_whatIs 49 = .ok (.iload_n 1, 1) := by decide +kernel
theorem dX10_whatIs_50 : decode cX10_whatIs 50 = .ok (.iload_n 2, 1) := by decide +kernel
theorem dX10_whatIs_51 : decode cX10_whatIs 51 = .ok (.aload_n 0, 1) := by decide +kernel
theorem dX10_whatIs_52 : decode cX10_whatIs 52 = .ok (.getfield 61, 3) := by decide +kernel
theorem dX10_whatIs_55 : decode cX10_whatIs 55 = .ok (.invokevirtual 275, 3) := by decide +kernel
theorem dX10_whatIs_58 : decode cX10_whatIs 58 = .ok (.ireturn, 1) := by decide +kernel
set_option maxRecDepth 20000 in
theorem ggX10_row_X10_outside : GoodIn wsX10_row wsX10_outside := goodIn_r _ [5] (by decide +kernel) (by decide +kernel)
set_option maxRecDepth 20000 in
theorem gX10_row_X10_outside : GoodIn wsX10_row (va_wsS RX10 73 yX10_outside wsX10_outside) := goodIn_app (goodIn_of _ (by decide +kernel)) ggX10_row_X10_outside
set_option maxRecDepth 20000 in
theorem ggX10_row_X6_isFull : GoodIn wsX10_row wsX6_isFull := goodIn_r _ [10, 11, 37, 38] (by decide +kernel) (by decide +kernel)
set_option maxRecDepth 20000 in
theorem gX10_row_X6_isFull : GoodIn wsX10_row (wsV RX10 278 RX6 yX6_isFull wsX6_isFull) := goodIn_app (goodIn_of _ (by decide +kernel)) ggX10_row_X6_isFull
set_option maxRecDepth 20000 in
theorem ggX10_row_X10_refused_ : GoodIn wsX10_row wsX10_refused_ := goodIn_r _ [15, 16, 17, 4, 18, 19, 20, 21, 22, 23, 29, 30, 31, 32, 33, 34, 35, 36] (by decide +kernel) (by decide +kernel)
set_option maxRecDepth 20000 in
theorem gX10_row_X10_refused_ : GoodIn wsX10_row (wsV RX10 81 RX10 yX10_refused_ wsX10_refused_) := goodIn_app (goodIn_of _ (by decide +kernel)) ggX10_row_X10_refused_
set_option maxRecDepth 20000 in
theorem ggX10_row_X6_add : GoodIn wsX10_row wsX6_add := goodIn_r _ [27, 28, 11, 37, 38] (by decide +kernel) (by decide +kernel)
set_option maxRecDepth 20000 in
theorem gX10_row_X6_add : GoodIn wsX10_row (wsV RX10 279 RX6 yX6_add wsX6_add) := goodIn_app (goodIn_of _ (by decide +kernel)) ggX10_row_X6_add
theorem dX10_row_0 : decode cX10_row 0 = .ok (.aload_n 0, 1) := by decide +kernel
theorem dX10_row_1 : decode cX10_row 1 = .ok (.iload_n 1, 1) := by decide +kernel
theorem dX10_row_2 : decode cX10_row 2 = .ok (.iconst 0, 1) := by decide +kernel
theorem dX10_row_3 : decode cX10_row 3 = .ok (.bipush 99, 2) := by decide +kernel
theorem dX10_row_5 : decode cX10_row 5 = .ok (.invokestatic 73, 3) := by decide +kernel
theorem dX10_row_8 : decode cX10_row 8 = .ok (.aload_n 0, 1) := by decide +kernel
theorem dX10_row_9 : decode cX10_row 9 = .ok (.getfield 61, 3) := by decide +kernel
theorem dX10_row_12 : decode cX10_row 12 = .ok (.invokevirtual 278, 3) := by decide +kernel
theorem dX10_row_15 : decode cX10_row 15 = .ok (.ifCond .eq 8, 3) := by decide +kernel
theorem dX10_row_18 : decode cX10_row 18 = .ok (.bipush (-6), 2) := by decide +kernel
theorem dX10_row_20 : decode cX10_row 20 = .ok (.goto 4, 3) := by decide +kernel
theorem dX10_row_23 : decode cX10_row 23 = .ok (.iconst 0, 1) := by decide +kernel
theorem dX10_row_24 : decode cX10_row 24 = .ok (.invokevirtual 81, 3) := by decide +kernel
theorem dX10_row_27 : decode cX10_row 27 = .ok (.istore_n 2, 1) := by decide +kernel
theorem dX10_row_28 : decode cX10_row 28 = .ok (.iload_n 2, 1) := by decide +kernel
theorem dX10_row_29 : decode cX10_row 29 = .ok (.ifCond .eq 7, 3) := by decide +kernel
theorem dX10_row_32 : decode cX10_row 32 = .ok (.iload_n 2, 1) := by decide +kernel
theorem dX10_row_33 : decode cX10_row 33 = .ok (.goto 11, 3) := by decide +kernel
theorem dX10_row_36 : decode cX10_row 36 = .ok (.aload_n 0, 1) := by decide +kernel
theorem dX10_row_37 : decode cX10_row 37 = .ok (.getfield 61, 3) := by decide +kernel
theorem dX10_row_40 : decode cX10_row 40 = .ok (.iload_n 1, 1) := by decide +kernel
theorem dX10_row_41 : decode cX10_row 41 = .ok (.invokevirtual 279, 3) := by decide +kernel
theorem dX10_row_44 : decode cX10_row 44 = .ok (.ireturn, 1) := by decide +kernel
set_option maxRecDepth 20000 in
theorem ggX10_judge_X3_firstNotSo : GoodIn wsX10_judge wsX3_firstNotSo := goodIn_r _ [7, 8, 9, 10, 11, 12, 13, 6, 14, 15, 16, 17, 18, 19, 20, 21, 22, 23, 24, 25, 26, 27, 28, 29, 30, 31, 32, 33, 34, 35, 36, 37, 38, 39, 40, 41, 42, 43, 44, 45, 46, 47, 48, 49, 50, 51, 52, 53, 54, 55, 56, 57, 58, 59, 60, 61, 62, 63, 64, 65, 66, 67, 68, 69, 70, 71, 72, 73, 74, 75, 76, 77, 78, 79, 80, 81, 82, 83, 84, 85, 86, 87, 88, 89, 90, 91, 92, 93, 94, 95, 96, 97, 98, 99, 100, 101, 102, 103, 104, 105, 106, 107, 108, 109, 110, 111, 112, 113, 114, 115, 116, 117, 118, 119, 120, 121, 122, 123, 124, 125, 126, 127, 128, 129, 130, 131, 132, 133, 134, 135, 136, 151, 152, 153, 154, 155, 156, 157, 158, 159, 160, 161, 162, 163, 164, 165, 166, 167, 168] (by decide +kernel) (by decide +kernel)
set_option maxRecDepth 20000 in
theorem gX10_judge_X3_firstNotSo : GoodIn wsX10_judge (wsV RX10 280 RX3 yX3_firstNotSo wsX3_firstNotSo) := goodIn_app (goodIn_of _ (by decide +kernel)) ggX10_judge_X3_firstNotSo
set_option maxRecDepth 20000 in
theorem ggX10_judge_X6_empty : GoodIn wsX10_judge wsX6_empty := goodIn_r _ [141, 142, 151, 152] (by decide +kernel) (by decide +kernel)
set_option maxRecDepth 20000 in
theorem gX10_judge_X6_empty : GoodIn wsX10_judge (wsV RX10 284 RX6 yX6_empty wsX6_empty) := goodIn_app (goodIn_of _ (by decide +kernel)) ggX10_judge_X6_empty
theorem dX10_judge_0 : decode cX10_judge 0 = .ok (.aload_n 0, 1) := by decide +kernel
theorem dX10_judge_1 : decode cX10_judge 1 = .ok (.getfield 47, 3) := by decide +kernel
theorem dX10_judge_4 : decode cX10_judge 4 = .ok (.aload_n 0, 1) := by decide +kernel
theorem dX10_judge_5 : decode cX10_judge 5 = .ok (.getfield 61, 3) := by decide +kernel
theorem dX10_judge_8 : decode cX10_judge 8 = .ok (.invokevirtual 280, 3) := by decide +kernel
theorem dX10_judge_11 : decode cX10_judge 11 = .ok (.istore_n 1, 1) := by decide +kernel
theorem dX10_judge_12 : decode cX10_judge 12 = .ok (.aload_n 0, 1) := by decide +kernel
theorem dX10_judge_13 : decode cX10_judge 13 = .ok (.getfield 61, 3) := by decide +kernel
theorem dX10_judge_16 : decode cX10_judge 16 = .ok (.invokevirtual 284, 3) := by decide +kernel
theorem dX10_judge_19 : decode cX10_judge 19 = .ok (.pop, 1) := by decide +kernel
theorem dX10_judge_20 : decode cX10_judge 20 = .ok (.iload_n 1, 1) := by decide +kernel
theorem dX10_judge_21 : decode cX10_judge 21 = .ok (.ireturn, 1) := by decide +kernel
set_option maxRecDepth 20000 in
theorem ggX10_clear_X6_empty : GoodIn wsX10_clear wsX6_empty := goodIn_r _ [6, 7, 16, 17] (by decide +kernel) (by decide +kernel)
set_option maxRecDepth 20000 in
theorem gX10_clear_X6_empty : GoodIn wsX10_clear (wsV RX10 284 RX6 yX6_empty wsX6_empty) := goodIn_app (goodIn_of _ (by decide +kernel)) ggX10_clear_X6_empty
theorem dX10_clear_0 : decode cX10_clear 0 = .ok (.aload_n 0, 1) := by decide +kernel
theorem dX10_clear_1 : decode cX10_clear 1 = .ok (.getfield 61, 3) := by decide +kernel
theorem dX10_clear_4 : decode cX10_clear 4 = .ok (.invokevirtual 284, 3) := by decide +kernel
theorem dX10_clear_7 : decode cX10_clear 7 = .ok (.ireturn, 1) := by decide +kernel
set_option maxRecDepth 20000 in
theorem ggX10_lots_X10_outside : GoodIn wsX10_lots wsX10_outside := goodIn_r _ [5] (by decide +kernel) (by decide +kernel)
set_option maxRecDepth 20000 in
theorem gX10_lots_X10_outside : GoodIn wsX10_lots (va_wsS RX10 73 yX10_outside wsX10_outside) := goodIn_app (goodIn_of _ (by decide +kernel)) ggX10_lots_X10_outside
set_option maxRecDepth 20000 in
theorem ggX10_lots_X10_wrongWhat : GoodIn wsX10_lots wsX10_wrongWhat := goodIn_r _ [8] (by decide +kernel) (by decide +kernel)
set_option maxRecDepth 20000 in
theorem gX10_lots_X10_wrongWhat : GoodIn wsX10_lots (va_wsS RX10 103 yX10_wrongWhat wsX10_wrongWhat) := goodIn_app (goodIn_of _ (by decide +kernel)) ggX10_lots_X10_wrongWhat
set_option maxRecDepth 20000 in
theorem ggX10_lots_X10_refused_ : GoodIn wsX10_lots wsX10_refused_ := goodIn_r _ [12, 13, 14, 4, 15, 16, 17, 18, 19, 20, 178, 179, 180, 181, 182, 183, 184, 185] (by decide +kernel) (by decide +kernel)
set_option maxRecDepth 20000 in
theorem gX10_lots_X10_refused_ : GoodIn wsX10_lots (wsV RX10 81 RX10 yX10_refused_ wsX10_refused_) := goodIn_app (goodIn_of _ (by decide +kernel)) ggX10_lots_X10_refused_
set_option maxRecDepth 20000 in
theorem ggX10_lots_X3_byLot : GoodIn wsX10_lots wsX3_byLot := goodIn_r _ [25, 26, 27, 28, 29, 30, 24, 31, 32, 33, 34, 35, 36, 37, 38, 39, 40, 41, 42, 43, 44, 45, 46, 47, 48, 49, 50, 51, 52, 53, 54, 55, 56, 57, 58, 59, 60, 61, 62, 63, 64, 65, 66, 67, 68, 69, 70, 71, 72, 73, 74, 75, 76, 77, 78, 79, 80, 81, 82, 83, 84, 85, 86, 87, 88, 89, 90, 91, 92, 93, 94, 95, 96, 97, 98, 99, 100, 101, 102, 103, 104, 105, 106, 107, 108, 109, 110, 111, 112, 113, 114, 115, 116, 117, 118, 119, 120, 121, 122, 123, 124, 125, 126, 127, 128, 129, 130, 131, 132, 133, 134, 135, 136, 137, 138, 139, 140, 141, 142, 143, 144, 145, 146, 147, 148, 149, 150, 151, 152, 153, 154, 155, 156, 157, 158, 159, 160, 161, 162, 163, 164, 165, 166, 167, 168, 169, 170, 171, 172, 173, 174, 175, 176, 177, 186, 187, 188, 189, 190, 191, 192, 193, 194, 195, 196, 197, 198, 199, 200, 201] (by decide +kernel) (by decide +kernel)
set_option maxRecDepth 20000 in
theorem gX10_lots_X3_byLot : GoodIn wsX10_lots (wsV RX10 287 RX3 yX3_byLot wsX3_byLot) := goodIn_app (goodIn_of _ (by decide +kernel)) ggX10_lots_X3_byLot
theorem dX10_lots_0 : decode cX10_lots 0 = .ok (.aload_n 0, 1) := by decide +kernel
theorem dX10_lots_1 : decode cX10_lots 1 = .ok (.iload_n 1, 1) := by decide +kernel
theorem dX10_lots_2 : decode cX10_lots 2 = .ok (.iconst 1, 1) := by decide +kernel
theorem dX10_lots_3 : decode cX10_lots 3 = .ok (.bipush 20, 2) := by decide +kernel
theorem dX10_lots_5 : decode cX10_lots 5 = .ok (.invokestatic 73, 3) := by decide +kernel
theorem dX10_lots_8 : decode cX10_lots 8 = .ok (.iload_n 3, 1) := by decide +kernel
theorem dX10_lots_9 : decode cX10_lots 9 = .ok (.iconst 1, 1) := by decide +kernel
theorem dX10_lots_10 : decode cX10_lots 10 = .ok (.invokestatic 103, 3) := by decide +kernel
theorem dX10_lots_13 : decode cX10_lots 13 = .ok (.invokevirtual 81, 3) := by decide +kernel
theorem dX10_lots_16 : decode cX10_lots 16 = .ok (.istore 4, 2) := by decide +kernel
theorem dX10_lots_18 : decode cX10_lots 18 = .ok (.iload 4, 2) := by decide +kernel
theorem dX10_lots_20 : decode cX10_lots 20 = .ok (.ifCond .eq 8, 3) := by decide +kernel
theorem dX10_lots_23 : decode cX10_lots 23 = .ok (.iload 4, 2) := by decide +kernel
theorem dX10_lots_25 : decode cX10_lots 25 = .ok (.goto 22, 3) := by decide +kernel
theorem dX10_lots_28 : decode cX10_lots 28 = .ok (.aload_n 0, 1) := by decide +kernel
theorem dX10_lots_29 : decode cX10_lots 29 = .ok (.getfield 47, 3) := by decide +kernel
theorem dX10_lots_32 : decode cX10_lots 32 = .ok (.iload_n 1, 1) := by decide +kernel
theorem dX10_lots_33 : decode cX10_lots 33 = .ok (.iload_n 2, 1) := by decide +kernel
theorem dX10_lots_34 : decode cX10_lots 34 = .ok (.iload_n 3, 1) := by decide +kernel
theorem dX10_lots_35 : decode cX10_lots 35 = .ok (.iconst 1, 1) := by decide +kernel
theorem dX10_lots_36 : decode cX10_lots 36 = .ok (.if_icmp .ne 7, 3) := by decide +kernel
theorem dX10_lots_39 : decode cX10_lots 39 = .ok (.iconst 1, 1) := by decide +kernel
theorem dX10_lots_40 : decode cX10_lots 40 = .ok (.goto 4, 3) := by decide +kernel
theorem dX10_lots_43 : decode cX10_lots 43 = .ok (.iconst 0, 1) := by decide +kernel
theorem dX10_lots_44 : decode cX10_lots 44 = .ok (.invokevirtual 287, 3) := by decide +kernel
theorem dX10_lots_47 : decode cX10_lots 47 = .ok (.ireturn, 1) := by decide +kernel
set_option maxRecDepth 20000 in
theorem ggX10_image_X8_copy : GoodIn wsX10_image wsX8_copy := goodIn_r _ [9, 10, 11, 12, 13, 14, 15, 16, 17, 18, 19, 20, 21, 30, 31, 32, 33, 34, 35, 36, 37, 38] (by decide +kernel) (by decide +kernel)
set_option maxRecDepth 20000 in
theorem gX10_image_X8_copy : GoodIn wsX10_image (wsV RX10 89 RX8 yX8_copy wsX8_copy) := goodIn_app (goodIn_of _ (by decide +kernel)) ggX10_image_X8_copy
theorem dX10_image_0 : decode cX10_image 0 = .ok (.aload_n 0, 1) := by decide +kernel
theorem dX10_image_1 : decode cX10_image 1 = .ok (.getfield 36, 3) := by decide +kernel
theorem dX10_image_4 : decode cX10_image 4 = .ok (.aload_n 0, 1) := by decide +kernel
theorem dX10_image_5 : decode cX10_image 5 = .ok (.getfield 32, 3) := by decide +kernel
theorem dX10_image_8 : decode cX10_image 8 = .ok (.invokevirtual 89, 3) := by decide +kernel
theorem dX10_image_11 : decode cX10_image 11 = .ok (.aload_n 0, 1) := by decide +kernel
theorem dX10_image_12 : decode cX10_image 12 = .ok (.iconst 1, 1) := by decide +kernel
theorem dX10_image_13 : decode cX10_image 13 = .ok (.putfield 69, 3) := by decide +kernel
theorem dX10_image_16 : decode cX10_image 16 = .ok (.aload_n 0, 1) := by decide +kernel
theorem dX10_image_17 : decode cX10_image 17 = .ok (.getfield 32, 3) := by decide +kernel
theorem dX10_image_20 : decode cX10_image 20 = .ok (.getfield 162, 3) := by decide +kernel
theorem dX10_image_23 : decode cX10_image 23 = .ok (.ireturn, 1) := by decide +kernel
set_option maxRecDepth 20000 in
theorem ggX10_on_X10_refused : GoodIn wsX10_on wsX10_refused := goodIn_r _ [9, 10, 11, 12, 8, 13, 14, 32, 33, 34, 35, 36, 37, 38, 39] (by decide +kernel) (by decide +kernel)
set_option maxRecDepth 20000 in
theorem gX10_on_X10_refused : GoodIn wsX10_on (wsV RX10 129 RX10 yX10_refused wsX10_refused) := goodIn_app (goodIn_of _ (by decide +kernel)) ggX10_on_X10_refused
set_option maxRecDepth 20000 in
theorem ggX10_on_X8_copy : GoodIn wsX10_on wsX8_copy := goodIn_r _ [19, 20, 21, 22, 23, 24, 25, 26, 27, 28, 29, 30, 31, 40, 41, 42, 43, 44, 45, 46, 47, 48] (by decide +kernel) (by decide +kernel)
set_option maxRecDepth 20000 in
theorem gX10_on_X8_copy : GoodIn wsX10_on (wsV RX10 89 RX8 yX8_copy wsX8_copy) := goodIn_app (goodIn_of _ (by decide +kernel)) ggX10_on_X8_copy
theorem dX10_on_0 : decode cX10_on 0 = .ok (.aload_n 0, 1) := by decide +kernel
theorem dX10_on_1 : decode cX10_on 1 = .ok (.aload_n 0, 1) := by decide +kernel
theorem dX10_on_2 : decode cX10_on 2 = .ok (.getfield 69, 3) := by decide +kernel
theorem dX10_on_5 : decode cX10_on 5 = .ok (.ifCond .eq 7, 3) := by decide +kernel
theorem dX10_on_8 : decode cX10_on 8 = .ok (.iconst 0, 1) := by decide +kernel
theorem dX10_on_9 : decode cX10_on 9 = .ok (.goto 5, 3) := by decide +kernel
theorem dX10_on_12 : decode cX10_on 12 = .ok (.bipush (-3), 2) := by decide +kernel
theorem dX10_on_14 : decode cX10_on 14 = .ok (.invokevirtual 129, 3) := by decide +kernel
theorem dX10_on_17 : decode cX10_on 17 = .ok (.istore_n 1, 1) := by decide +kernel
theorem dX10_on_18 : decode cX10_on 18 = .ok (.iload_n 1, 1) := by decide +kernel
theorem dX10_on_19 : decode cX10_on 19 = .ok (.ifCond .eq 5, 3) := by decide +kernel
theorem dX10_on_22 : decode cX10_on 22 = .ok (.iload_n 1, 1) := by decide +kernel
theorem dX10_on_23 : decode cX10_on 23 = .ok (.ireturn, 1) := by decide +kernel
theorem dX10_on_24 : decode cX10_on 24 = .ok (.aload_n 0, 1) := by decide +kernel
theorem dX10_on_25 : decode cX10_on 25 = .ok (.getfield 32, 3) := by decide +kernel
theorem dX10_on_28 : decode cX10_on 28 = .ok (.aload_n 0, 1) := by decide +kernel
theorem dX10_on_29 : decode cX10_on 29 = .ok (.getfield 36, 3) := by decide +kernel
theorem dX10_on_32 : decode cX10_on 32 = .ok (.invokevirtual 89, 3) := by decide +kernel
theorem dX10_on_35 : decode cX10_on 35 = .ok (.aload_n 0, 1) := by decide +kernel
theorem dX10_on_36 : decode cX10_on 36 = .ok (.getfield 32, 3) := by decide +kernel
theorem dX10_on_39 : decode cX10_on 39 = .ok (.getfield 162, 3) := by decide +kernel
theorem dX10_on_42 : decode cX10_on 42 = .ok (.ireturn, 1) := by decide +kernel
set_option maxRecDepth 20000 in
theorem ggX10_count_X8_hereBits : GoodIn wsX10_count wsX8_hereBits := goodIn_r _ [14, 15, 16, 39, 40, 41, 42, 43, 44, 45, 46, 47] (by decide +kernel) (by decide +kernel)
set_option maxRecDepth 20000 in
theorem gX10_count_X8_hereBits : GoodIn wsX10_count (wsV RX10 294 RX8 yX8_hereBits wsX8_hereBits) := goodIn_app (goodIn_of _ (by decide +kernel)) ggX10_count_X8_hereBits
set_option maxRecDepth 20000 in
theorem ggX10_count_X8_knownTogether : GoodIn wsX10_count wsX8_knownTogether := goodIn_r _ [20, 15, 16, 21, 22, 23, 13, 24, 25, 39, 40, 41, 42, 43, 44, 45, 46, 47] (by decide +kernel) (by decide +kernel)
set_option maxRecDepth 20000 in
theorem gX10_count_X8_knownTogether : GoodIn wsX10_count (wsV RX10 265 RX8 yX8_knownTogether wsX8_knownTogether) := goodIn_app (goodIn_of _ (by decide +kernel)) ggX10_count_X8_knownTogether
set_option maxRecDepth 20000 in
theorem ggX10_count_X8_owedTogether : GoodIn wsX10_count wsX8_owedTogether := goodIn_r _ [29, 15, 30, 39, 40, 41, 42, 43, 44, 45, 46, 47] (by decide +kernel) (by decide +kernel)
set_option maxRecDepth 20000 in
theorem gX10_count_X8_owedTogether : GoodIn wsX10_count (wsV RX10 297 RX8 yX8_owedTogether wsX8_owedTogether) := goodIn_app (goodIn_of _ (by decide +kernel)) ggX10_count_X8_owedTogether
theorem dX10_count_0 : decode cX10_count 0 = .ok (.iload_n 1, 1) := by decide +kernel
theorem dX10_count_1 : decode cX10_count 1 = .ok (.bipush 11, 2) := by decide +kernel
theorem dX10_count_3 : decode cX10_count 3 = .ok (.if_icmp .lt 19, 3) := by decide +kernel
theorem dX10_count_6 : decode cX10_count 6 = .ok (.iload_n 1, 1) := by decide +kernel
theorem dX10_count_7 : decode cX10_count 7 = .ok (.bipush 16, 2) := by decide +kernel
theorem dX10_count_9 : decode cX10_count 9 = .ok (.if_icmp .gt 13, 3) := by decide +kernel
theorem dX10_count_12 : decode cX10_count 12 = .ok (.aload_n 0, 1) := by decide +kernel
theorem dX10_count_13 : decode cX10_count 13 = .ok (.getfield 65, 3) := by decide +kernel
theorem dX10_count_16 : decode cX10_count 16 = .ok (.iload_n 1, 1) := by decide +kernel
theorem dX10_count_17 : decode cX10_count 17 = .ok (.bipush 10, 2) := by decide +kernel
theorem dX10_count_19 : decode cX10_count 19 = .ok (.isub, 1) := by decide +kernel
theorem dX10_count_20 : decode cX10_count 20 = .ok (.iaload, 1) := by decide +kernel
theorem dX10_count_21 : decode cX10_count 21 = .ok (.ireturn, 1) := by decide +kernel
theorem dX10_count_22 : decode cX10_count 22 = .ok (.iload_n 1, 1) := by decide +kernel
theorem dX10_count_23 : decode cX10_count 23 = .ok (.tableswitch 109 0 7 #[45, 53, 61, 69, 77, 85, 93, 101], 45) := by decide +kernel
theorem dX10_count_68 : decode cX10_count 68 = .ok (.aload_n 0, 1) := by decide +kernel
theorem dX10_count_69 : decode cX10_count 69 = .ok (.getfield 32, 3) := by decide +kernel
theorem dX10_count_72 : decode cX10_count 72 = .ok (.getfield 291, 3) := by decide +kernel
theorem dX10_count_75 : decode cX10_count 75 = .ok (.ireturn, 1) := by decide +kernel
theorem dX10_count_76 : decode cX10_count 76 = .ok (.aload_n 0, 1) := by decide +kernel
theorem dX10_count_77 : decode cX10_count 77 = .ok (.getfield 32, 3) := by decide +kernel
theorem dX10_count_80 : decode cX10_count 80 = .ok (.getfield 162, 3) := by decide +kernel
theorem dX10_count_83 : decode cX10_count 83 = .ok (.ireturn, 1) := by decide +kernel
theorem dX10_count_84 : decode cX10_count 84 = .ok (.aload_n 0, 1) := by decide +kernel
theorem dX10_count_85 : decode cX10_count 85 = .ok (.getfield 32, 3) := by decide +kernel
theorem dX10_count_88 : decode cX10_count 88 = .ok (.invokevirtual 294, 3) := by decide +kernel
theorem dX10_count_91 : decode cX10_count 91 = .ok (.ireturn, 1) := by decide +kernel
theorem dX10_count_92 : decode cX10_count 92 = .ok (.aload_n 0, 1) := by decide +kernel
theorem dX10_count_93 : decode cX10_count 93 = .ok (.getfield 32, 3) := by decide +kernel
theorem dX10_count_96 : decode cX10_count 96 = .ok (.getfield 158, 3) := by decide +kernel
theorem dX10_count_99 : decode cX10_count 99 = .ok (.ireturn, 1) := by decide +kernel
theorem dX10_count_100 : decode cX10_count 100 = .ok (.aload_n 0, 1) := by decide +kernel
theorem dX10_count_101 : decode cX10_count 101 = .ok (.getfield 32, 3) := by decide +kernel
theorem dX10_count_104 : decode cX10_count 104 = .ok (.invokevirtual 265, 3) := by decide +kernel
theorem dX10_count_107 : decode cX10_count 107 = .ok (.ireturn, 1) := by decide +kernel
theorem dX10_count_108 : decode cX10_count 108 = .ok (.aload_n 0, 1) := by decide +kernel
theorem dX10_count_109 : decode cX10_count 109 = .ok (.getfield 32, 3) := by decide +kernel
theorem dX10_count_112 : decode cX10_count 112 = .ok (.invokevirtual 297, 3) := by decide +kernel
theorem dX10_count_115 : decode cX10_count 115 = .ok (.ireturn, 1) := by decide +kernel
theorem dX10_count_116 : decode cX10_count 116 = .ok (.aload_n 0, 1) := by decide +kernel
theorem dX10_count_117 : decode cX10_count 117 = .ok (.getfield 61, 3) := by decide +kernel
theorem dX10_count_120 : decode cX10_count 120 = .ok (.getfield 300, 3) := by decide +kernel
theorem dX10_count_123 : decode cX10_count 123 = .ok (.ireturn, 1) := by decide +kernel
theorem dX10_count_124 : decode cX10_count 124 = .ok (.aload_n 0, 1) := by decide +kernel
theorem dX10_count_125 : decode cX10_count 125 = .ok (.getfield 54, 3) := by decide +kernel
theorem dX10_count_128 : decode cX10_count 128 = .ok (.getfield 303, 3) := by decide +kernel
theorem dX10_count_131 : decode cX10_count 131 = .ok (.ireturn, 1) := by decide +kernel
theorem dX10_count_132 : decode cX10_count 132 = .ok (.bipush (-9), 2) := by decide +kernel
theorem dX10_count_134 : decode cX10_count 134 = .ok (.ireturn, 1) := by decide +kernel
set_option maxRecDepth 20000 in
theorem ggX10_nobody_X8_has : GoodIn wsX10_nobody wsX8_has := goodIn_r _ [6, 7, 16, 17, 18, 19, 20, 21, 22, 23, 24] (by decide +kernel) (by decide +kernel)
set_option maxRecDepth 20000 in
theorem gX10_nobody_X8_has : GoodIn wsX10_nobody (wsV RX10 304 RX8 yX8_has wsX8_has) := goodIn_app (goodIn_of _ (by decide +kernel)) ggX10_nobody_X8_has
theorem dX10_nobody_0 : decode cX10_nobody 0 = .ok (.aload_n 0, 1) := by decide +kernel
theorem dX10_nobody_1 : decode cX10_nobody 1 = .ok (.getfield 32, 3) := by decide +kernel
theorem dX10_nobody_4 : decode cX10_nobody 4 = .ok (.iload_n 1, 1) := by decide +kernel
theorem dX10_nobody_5 : decode cX10_nobody 5 = .ok (.invokevirtual 304, 3) := by decide +kernel
theorem dX10_nobody_8 : decode cX10_nobody 8 = .ok (.ifCond .eq 7, 3) := by decide +kernel
theorem dX10_nobody_11 : decode cX10_nobody 11 = .ok (.iconst 0, 1) := by decide +kernel
theorem dX10_nobody_12 : decode cX10_nobody 12 = .ok (.goto 4, 3) := by decide +kernel
theorem dX10_nobody_15 : decode cX10_nobody 15 = .ok (.iconst (-1), 1) := by decide +kernel
theorem dX10_nobody_16 : decode cX10_nobody 16 = .ok (.ireturn, 1) := by decide +kernel
set_option maxRecDepth 20000 in
theorem ggX10_notTwo_X8_areTwo : GoodIn wsX10_notTwo wsX8_areTwo := goodIn_r _ [6, 7, 8, 9, 5, 10, 11, 20, 21, 22, 23, 24, 25, 26, 27, 28] (by decide +kernel) (by decide +kernel)
set_option maxRecDepth 20000 in
theorem gX10_notTwo_X8_areTwo : GoodIn wsX10_notTwo (wsV RX10 307 RX8 yX8_areTwo wsX8_areTwo) := goodIn_app (goodIn_of _ (by decide +kernel)) ggX10_notTwo_X8_areTwo
theorem dX10_notTwo_0 : decode cX10_notTwo 0 = .ok (.aload_n 0, 1) := by decide +kernel
theorem dX10_notTwo_1 : decode cX10_notTwo 1 = .ok (.getfield 32, 3) := by decide +kernel
theorem dX10_notTwo_4 : decode cX10_notTwo 4 = .ok (.iload_n 1, 1) := by decide +kernel
theorem dX10_notTwo_5 : decode cX10_notTwo 5 = .ok (.iload_n 2, 1) := by decide +kernel
theorem dX10_notTwo_6 : decode cX10_notTwo 6 = .ok (.invokevirtual 307, 3) := by decide +kernel
theorem dX10_notTwo_9 : decode cX10_notTwo 9 = .ok (.ifCond .eq 7, 3) := by decide +kernel
theorem dX10_notTwo_12 : decode cX10_notTwo 12 = .ok (.iconst 0, 1) := by decide +kernel
theorem dX10_notTwo_13 : decode cX10_notTwo 13 = .ok (.goto 4, 3) := by decide +kernel
theorem dX10_notTwo_16 : decode cX10_notTwo 16 = .ok (.iconst (-1), 1) := by decide +kernel
theorem dX10_notTwo_17 : decode cX10_notTwo 17 = .ok (.ireturn, 1) := by decide +kernel
set_option maxRecDepth 20000 in
theorem ggX10_forgotten_X8_has : GoodIn wsX10_forgotten wsX8_has := goodIn_r _ [7, 8, 17, 18, 19, 20, 21, 22, 23, 24, 25] (by decide +kernel) (by decide +kernel)
set_option maxRecDepth 20000 in
theorem gX10_forgotten_X8_has : GoodIn wsX10_forgotten (wsV RX10 304 RX8 yX8_has wsX8_has) := goodIn_app (goodIn_of _ (by decide +kernel)) ggX10_forgotten_X8_has
theorem dX10_forgotten_0 : decode cX10_forgotten 0 = .ok (.aload_n 0, 1) := by decide +kernel
theorem dX10_forgotten_1 : decode cX10_forgotten 1 = .ok (.getfield 32, 3) := by decide +kernel
theorem dX10_forgotten_4 : decode cX10_forgotten 4 = .ok (.iload_n 1, 1) := by decide +kernel
theorem dX10_forgotten_5 : decode cX10_forgotten 5 = .ok (.invokevirtual 304, 3) := by decide +kernel
theorem dX10_forgotten_8 : decode cX10_forgotten 8 = .ok (.ifCond .eq 20, 3) := by decide +kernel
theorem dX10_forgotten_11 : decode cX10_forgotten 11 = .ok (.aload_n 0, 1) := by decide +kernel
theorem dX10_forgotten_12 : decode cX10_forgotten 12 = .ok (.getfield 32, 3) := by decide +kernel
theorem dX10_forgotten_15 : decode cX10_forgotten 15 = .ok (.getfield 112, 3) := by decide +kernel
theorem dX10_forgotten_18 : decode cX10_forgotten 18 = .ok (.iload_n 1, 1) := by decide +kernel
theorem dX10_forgotten_19 : decode cX10_forgotten 19 = .ok (.baload, 1) := by decide +kernel
theorem dX10_forgotten_20 : decode cX10_forgotten 20 = .ok (.ifCond .ne 8, 3) := by decide +kernel
theorem dX10_forgotten_23 : decode cX10_forgotten 23 = .ok (.bipush (-3), 2) := by decide +kernel
theorem dX10_forgotten_25 : decode cX10_forgotten 25 = .ok (.goto 4, 3) := by decide +kernel
theorem dX10_forgotten_28 : decode cX10_forgotten 28 = .ok (.iconst 0, 1) := by decide +kernel
theorem dX10_forgotten_29 : decode cX10_forgotten 29 = .ok (.ireturn, 1) := by decide +kernel
theorem dX10_wrongWhat_0 : decode cX10_wrongWhat 0 = .ok (.iload_n 0, 1) := by decide +kernel
theorem dX10_wrongWhat_1 : decode cX10_wrongWhat 1 = .ok (.ifCond .lt 8, 3) := by decide +kernel
theorem dX10_wrongWhat_4 : decode cX10_wrongWhat 4 = .ok (.iload_n 0, 1) := by decide +kernel
theorem dX10_wrongWhat_5 : decode cX10_wrongWhat 5 = .ok (.iload_n 1, 1) := by decide +kernel
theorem dX10_wrongWhat_6 : decode cX10_wrongWhat 6 = .ok (.if_icmp .le 8, 3) := by decide +kernel
theorem dX10_wrongWhat_9 : decode cX10_wrongWhat 9 = .ok (.bipush (-2), 2) := by decide +kernel
theorem dX10_wrongWhat_11 : decode cX10_wrongWhat 11 = .ok (.goto 4, 3) := by decide +kernel
theorem dX10_wrongWhat_14 : decode cX10_wrongWhat 14 = .ok (.iconst 0, 1) := by decide +kernel
theorem dX10_wrongWhat_15 : decode cX10_wrongWhat 15 = .ok (.ireturn, 1) := by decide +kernel
theorem dX10_outside_0 : decode cX10_outside 0 = .ok (.iload_n 0, 1) := by decide +kernel
theorem dX10_outside_1 : decode cX10_outside 1 = .ok (.iload_n 1, 1) := by decide +kernel
theorem dX10_outside_2 : decode cX10_outside 2 = .ok (.if_icmp .ge 6, 3) := by decide +kernel
theorem dX10_outside_5 : decode cX10_outside 5 = .ok (.bipush (-4), 2) := by decide +kernel
theorem dX10_outside_7 : decode cX10_outside 7 = .ok (.ireturn, 1) := by decide +kernel
theorem dX10_outside_8 : decode cX10_outside 8 = .ok (.iload_n 0, 1) := by decide +kernel
theorem dX10_outside_9 : decode cX10_outside 9 = .ok (.iload_n 2, 1) := by decide +kernel
theorem dX10_outside_10 : decode cX10_outside 10 = .ok (.if_icmp .le 8, 3) := by decide +kernel
theorem dX10_outside_13 : decode cX10_outside 13 = .ok (.bipush (-6), 2) := by decide +kernel
theorem dX10_outside_15 : decode cX10_outside 15 = .ok (.goto 4, 3) := by decide +kernel
theorem dX10_outside_18 : decode cX10_outside 18 = .ok (.iconst 0, 1) := by decide +kernel
theorem dX10_outside_19 : decode cX10_outside 19 = .ok (.ireturn, 1) := by decide +kernel
set_option maxRecDepth 20000 in
theorem ggX10_refused_X10_counted : GoodIn wsX10_refused wsX10_counted := goodIn_r _ [5, 6, 7, 8, 9, 10, 11, 12, 13, 14] (by decide +kernel) (by decide +kernel)
set_option maxRecDepth 20000 in
theorem gX10_refused_X10_counted : GoodIn wsX10_refused (wsV RX10 311 RX10 yX10_counted wsX10_counted) := goodIn_app (goodIn_of _ (by decide +kernel)) ggX10_refused_X10_counted
theorem dX10_refused_0 : decode cX10_refused 0 = .ok (.aload_n 0, 1) := by decide +kernel
theorem dX10_refused_1 : decode cX10_refused 1 = .ok (.iload_n 1, 1) := by decide +kernel
theorem dX10_refused_2 : decode cX10_refused 2 = .ok (.invokevirtual 311, 3) := by decide +kernel
theorem dX10_refused_5 : decode cX10_refused 5 = .ok (.ireturn, 1) := by decide +kernel
set_option maxRecDepth 20000 in
theorem ggX10_refused__X10_firstThatFits : GoodIn wsX10_refused_ wsX10_firstThatFits := goodIn_r _ [4] (by decide +kernel) (by decide +kernel)
set_option maxRecDepth 20000 in
theorem gX10_refused__X10_firstThatFits : GoodIn wsX10_refused_ (va_wsS RX10 314 yX10_firstThatFits wsX10_firstThatFits) := goodIn_app (goodIn_of _ (by decide +kernel)) ggX10_refused__X10_firstThatFits
set_option maxRecDepth 20000 in
theorem ggX10_refused__X10_counted : GoodIn wsX10_refused_ wsX10_counted := goodIn_r _ [8, 9, 10, 11, 12, 13, 14, 15, 16, 17] (by decide +kernel) (by decide +kernel)
set_option maxRecDepth 20000 in
theorem gX10_refused__X10_counted : GoodIn wsX10_refused_ (wsV RX10 311 RX10 yX10_counted wsX10_counted) := goodIn_app (goodIn_of _ (by decide +kernel)) ggX10_refused__X10_counted
theorem dX10_refused__0 : decode cX10_refused_ 0 = .ok (.aload_n 0, 1) := by decide +kernel
theorem dX10_refused__1 : decode cX10_refused_ 1 = .ok (.iload_n 1, 1) := by decide +kernel
theorem dX10_refused__2 : decode cX10_refused_ 2 = .ok (.iload_n 2, 1) := by decide +kernel
theorem dX10_refused__3 : decode cX10_refused_ 3 = .ok (.invokestatic 314, 3) := by decide +kernel
theorem dX10_refused__6 : decode cX10_refused_ 6 = .ok (.invokevirtual 311, 3) := by decide +kernel
theorem dX10_refused__9 : decode cX10_refused_ 9 = .ok (.ireturn, 1) := by decide +kernel
set_option maxRecDepth 20000 in
theorem ggX10_refused___X10_firstThatFits : GoodIn wsX10_refused__ wsX10_firstThatFits := goodIn_r _ [4] (by decide +kernel) (by decide +kernel)
set_option maxRecDepth 20000 in
theorem gX10_refused___X10_firstThatFits : GoodIn wsX10_refused__ (va_wsS RX10 314 yX10_firstThatFits wsX10_firstThatFits) := goodIn_app (goodIn_of _ (by decide +kernel)) ggX10_refused___X10_firstThatFits
set_option maxRecDepth 20000 in
theorem ggX10_refused___X10_counted : GoodIn wsX10_refused__ wsX10_counted := goodIn_r _ [8, 9, 10, 11, 12, 13, 14, 15, 16, 17] (by decide +kernel) (by decide +kernel)
set_option maxRecDepth 20000 in
theorem gX10_refused___X10_counted : GoodIn wsX10_refused__ (wsV RX10 311 RX10 yX10_counted wsX10_counted) := goodIn_app (goodIn_of _ (by decide +kernel)) ggX10_refused___X10_counted
theorem dX10_refused___0 : decode cX10_refused__ 0 = .ok (.aload_n 0, 1) := by decide +kernel
theorem dX10_refused___1 : decode cX10_refused__ 1 = .ok (.iload_n 1, 1) := by decide +kernel
theorem dX10_refused___2 : decode cX10_refused__ 2 = .ok (.iload_n 2, 1) := by decide +kernel
theorem dX10_refused___3 : decode cX10_refused__ 3 = .ok (.invokestatic 314, 3) := by decide +kernel
theorem dX10_refused___6 : decode cX10_refused__ 6 = .ok (.iload_n 3, 1) := by decide +kernel
theorem dX10_refused___7 : decode cX10_refused__ 7 = .ok (.invokestatic 314, 3) := by decide +kernel
theorem dX10_refused___10 : decode cX10_refused__ 10 = .ok (.invokevirtual 311, 3) := by decide +kernel
theorem dX10_refused___13 : decode cX10_refused__ 13 = .ok (.ireturn, 1) := by decide +kernel
set_option maxRecDepth 20000 in
theorem ggX10_refused____X10_firstThatFits : GoodIn wsX10_refused___ wsX10_firstThatFits := goodIn_r _ [4] (by decide +kernel) (by decide +kernel)
set_option maxRecDepth 20000 in
theorem gX10_refused____X10_firstThatFits : GoodIn wsX10_refused___ (va_wsS RX10 314 yX10_firstThatFits wsX10_firstThatFits) := goodIn_app (goodIn_of _ (by decide +kernel)) ggX10_refused____X10_firstThatFits
set_option maxRecDepth 20000 in
theorem ggX10_refused____X10_counted : GoodIn wsX10_refused___ wsX10_counted := goodIn_r _ [8, 9, 10, 11, 12, 13, 14, 15, 16, 17] (by decide +kernel) (by decide +kernel)
set_option maxRecDepth 20000 in
theorem gX10_refused____X10_counted : GoodIn wsX10_refused___ (wsV RX10 311 RX10 yX10_counted wsX10_counted) := goodIn_app (goodIn_of _ (by decide +kernel)) ggX10_refused____X10_counted
theorem dX10_refused____0 : decode cX10_refused___ 0 = .ok (.aload_n 0, 1) := by decide +kernel
theorem dX10_refused____1 : decode cX10_refused___ 1 = .ok (.iload_n 1, 1) := by decide +kernel
theorem dX10_refused____2 : decode cX10_refused___ 2 = .ok (.iload_n 2, 1) := by decide +kernel
theorem dX10_refused____3 : decode cX10_refused___ 3 = .ok (.invokestatic 314, 3) := by decide +kernel
theorem dX10_refused____6 : decode cX10_refused___ 6 = .ok (.iload_n 3, 1) := by decide +kernel
theorem dX10_refused____7 : decode cX10_refused___ 7 = .ok (.iload 4, 2) := by decide +kernel
theorem dX10_refused____9 : decode cX10_refused___ 9 = .ok (.invokestatic 314, 3) := by decide +kernel
theorem dX10_refused____12 : decode cX10_refused___ 12 = .ok (.invokestatic 314, 3) := by decide +kernel
theorem dX10_refused____15 : decode cX10_refused___ 15 = .ok (.invokevirtual 311, 3) := by decide +kernel
theorem dX10_refused____18 : decode cX10_refused___ 18 = .ok (.ireturn, 1) := by decide +kernel
theorem dX10_counted_0 : decode cX10_counted 0 = .ok (.iload_n 1, 1) := by decide +kernel
theorem dX10_counted_1 : decode cX10_counted 1 = .ok (.iconst (-1), 1) := by decide +kernel
theorem dX10_counted_2 : decode cX10_counted 2 = .ok (.if_icmp .gt 20, 3) := by decide +kernel
theorem dX10_counted_5 : decode cX10_counted 5 = .ok (.iload_n 1, 1) := by decide +kernel
theorem dX10_counted_6 : decode cX10_counted 6 = .ok (.bipush (-6), 2) := by decide +kernel
theorem dX10_counted_8 : decode cX10_counted 8 = .ok (.if_icmp .lt 14, 3) := by decide +kernel
theorem dX10_counted_11 : decode cX10_counted 11 = .ok (.aload_n 0, 1) := by decide +kernel
theorem dX10_counted_12 : decode cX10_counted 12 = .ok (.getfield 65, 3) := by decide +kernel
theorem dX10_counted_15 : decode cX10_counted 15 = .ok (.iload_n 1, 1) := by decide +kernel
theorem dX10_counted_16 : decode cX10_counted 16 = .ok (.ineg, 1) := by decide +kernel
theorem dX10_counted_17 : decode cX10_counted 17 = .ok (.dup2, 1) := by decide +kernel
theorem dX10_counted_18 : decode cX10_counted 18 = .ok (.iaload, 1) := by decide +kernel
theorem dX10_counted_19 : decode cX10_counted 19 = .ok (.iconst 1, 1) := by decide +kernel
theorem dX10_counted_20 : decode cX10_counted 20 = .ok (.iadd, 1) := by decide +kernel
theorem dX10_counted_21 : decode cX10_counted 21 = .ok (.iastore, 1) := by decide +kernel
theorem dX10_counted_22 : decode cX10_counted 22 = .ok (.iload_n 1, 1) := by decide +kernel
theorem dX10_counted_23 : decode cX10_counted 23 = .ok (.ireturn, 1) := by decide +kernel
theorem dX10_firstThatFits_0 : decode cX10_firstThatFits 0 = .ok (.iload_n 0, 1) := by decide +kernel
theorem dX10_firstThatFits_1 : decode cX10_firstThatFits 1 = .ok (.ifCond .eq 7, 3) := by decide +kernel
theorem dX10_firstThatFits_4 : decode cX10_firstThatFits 4 = .ok (.iload_n 0, 1) := by decide +kernel
theorem dX10_firstThatFits_5 : decode cX10_firstThatFits 5 = .ok (.goto 4, 3) := by decide +kernel
theorem dX10_firstThatFits_8 : decode cX10_firstThatFits 8 = .ok (.iload_n 1, 1) := by decide +kernel
theorem dX10_firstThatFits_9 : decode cX10_firstThatFits 9 = .ok (.ireturn, 1) := by decide +kernel
theorem dX10_noneIfNever_0 : decode cX10_noneIfNever 0 = .ok (.iload_n 0, 1) := by decide +kernel
theorem dX10_noneIfNever_1 : decode cX10_noneIfNever 1 = .ok (.bipush 100, 2) := by decide +kernel
theorem dX10_noneIfNever_3 : decode cX10_noneIfNever 3 = .ok (.if_icmp .ne 8, 3) := by decide +kernel
theorem dX10_noneIfNever_6 : decode cX10_noneIfNever 6 = .ok (.bipush (-9), 2) := by decide +kernel
theorem dX10_noneIfNever_8 : decode cX10_noneIfNever 8 = .ok (.goto 4, 3) := by decide +kernel
theorem dX10_noneIfNever_11 : decode cX10_noneIfNever 11 = .ok (.iload_n 0, 1) := by decide +kernel
theorem dX10_noneIfNever_12 : decode cX10_noneIfNever 12 = .ok (.ireturn, 1) := by decide +kernel
set_option maxRecDepth 20000 in
theorem ggX10_partOf_X10_greatestDivisor : GoodIn wsX10_partOf wsX10_greatestDivisor := goodIn_r _ [4] (by decide +kernel) (by decide +kernel)
set_option maxRecDepth 20000 in
theorem gX10_partOf_X10_greatestDivisor : GoodIn wsX10_partOf (va_wsS RX10 317 yX10_greatestDivisor wsX10_greatestDivisor) := goodIn_app (goodIn_of _ (by decide +kernel)) ggX10_partOf_X10_greatestDivisor
theorem dX10_partOf_0 : decode cX10_partOf 0 = .ok (.lload_n 0, 1) := by decide +kernel
theorem dX10_partOf_1 : decode cX10_partOf 1 = .ok (.lload_n 2, 1) := by decide +kernel
theorem dX10_partOf_2 : decode cX10_partOf 2 = .ok (.invokestatic 317, 3) := by decide +kernel
theorem dX10_partOf_5 : decode cX10_partOf 5 = .ok (.lstore 5, 2) := by decide +kernel
theorem dX10_partOf_7 : decode cX10_partOf 7 = .ok (.lload 5, 2) := by decide +kernel
theorem dX10_partOf_9 : decode cX10_partOf 9 = .ok (.lconst 1, 1) := by decide +kernel
theorem dX10_partOf_10 : decode cX10_partOf 10 = .ok (.lcmp, 1) := by decide +kernel
theorem dX10_partOf_11 : decode cX10_partOf 11 = .ok (.ifCond .ge 7, 3) := by decide +kernel
theorem dX10_partOf_14 : decode cX10_partOf 14 = .ok (.iload 4, 2) := by decide +kernel
theorem dX10_partOf_16 : decode cX10_partOf 16 = .ok (.i2l, 1) := by decide +kernel
theorem dX10_partOf_17 : decode cX10_partOf 17 = .ok (.lreturn, 1) := by decide +kernel
theorem dX10_partOf_18 : decode cX10_partOf 18 = .ok (.iload 4, 2) := by decide +kernel
theorem dX10_partOf_20 : decode cX10_partOf 20 = .ok (.ifCond .ne 7, 3) := by decide +kernel
theorem dX10_partOf_23 : decode cX10_partOf 23 = .ok (.lload_n 0, 1) := by decide +kernel
theorem dX10_partOf_24 : decode cX10_partOf 24 = .ok (.goto 4, 3) := by decide +kernel
theorem dX10_partOf_27 : decode cX10_partOf 27 = .ok (.lload_n 2, 1) := by decide +kernel
theorem dX10_partOf_28 : decode cX10_partOf 28 = .ok (.lload 5, 2) := by decide +kernel
theorem dX10_partOf_30 : decode cX10_partOf 30 = .ok (.ldiv, 1) := by decide +kernel
theorem dX10_partOf_31 : decode cX10_partOf 31 = .ok (.lreturn, 1) := by decide +kernel
theorem dX10_greatestDivisor_0 : decode cX10_greatestDivisor 0 = .ok (.lload_n 0, 1) := by decide +kernel
theorem dX10_greatestDivisor_1 : decode cX10_greatestDivisor 1 = .ok (.lstore 4, 2) := by decide +kernel
theorem dX10_greatestDivisor_3 : decode cX10_greatestDivisor 3 = .ok (.lload_n 2, 1) := by decide +kernel
theorem dX10_greatestDivisor_4 : decode cX10_greatestDivisor 4 = .ok (.lstore 6, 2) := by decide +kernel
theorem dX10_greatestDivisor_6 : decode cX10_greatestDivisor 6 = .ok (.iconst 0, 1) := by decide +kernel
theorem dX10_greatestDivisor_7 : decode cX10_greatestDivisor 7 = .ok (.istore 8, 2) := by decide +kernel
theorem dX10_greatestDivisor_9 : decode cX10_greatestDivisor 9 = .ok (.iload 8, 2) := by decide +kernel
theorem dX10_greatestDivisor_11 : decode cX10_greatestDivisor 11 = .ok (.bipush 100, 2) := by decide +kernel
theorem dX10_greatestDivisor_13 : decode cX10_greatestDivisor 13 = .ok (.if_icmp .ge 31, 3) := by decide +kernel
theorem dX10_greatestDivisor_16 : decode cX10_greatestDivisor 16 = .ok (.lload 6, 2) := by decide +kernel
theorem dX10_greatestDivisor_18 : decode cX10_greatestDivisor 18 = .ok (.lconst 0, 1) := by decide +kernel
theorem dX10_greatestDivisor_19 : decode cX10_greatestDivisor 19 = .ok (.lcmp, 1) := by decide +kernel
theorem dX10_greatestDivisor_20 : decode cX10_greatestDivisor 20 = .ok (.ifCond .eq 24, 3) := by decide +kernel
theorem dX10_greatestDivisor_23 : decode cX10_greatestDivisor 23 = .ok (.lload 4, 2) := by decide +kernel
theorem dX10_greatestDivisor_25 : decode cX10_greatestDivisor 25 = .ok (.lload 6, 2) := by decide +kernel
theorem dX10_greatestDivisor_27 : decode cX10_greatestDivisor 27 = .ok (.lrem, 1) := by decide +kernel
theorem dX10_greatestDivisor_28 : decode cX10_greatestDivisor 28 = .ok (.lstore 9, 2) := by decide +kernel
theorem dX10_greatestDivisor_30 : decode cX10_greatestDivisor 30 = .ok (.lload 6, 2) := by decide +kernel
theorem dX10_greatestDivisor_32 : decode cX10_greatestDivisor 32 = .ok (.lstore 4, 2) := by decide +kernel
theorem dX10_greatestDivisor_34 : decode cX10_greatestDivisor 34 = .ok (.lload 9, 2) := by decide +kernel
theorem dX10_greatestDivisor_36 : decode cX10_greatestDivisor 36 = .ok (.lstore 6, 2) := by decide +kernel
theorem dX10_greatestDivisor_38 : decode cX10_greatestDivisor 38 = .ok (.iinc 8 1, 3) := by decide +kernel
theorem dX10_greatestDivisor_41 : decode cX10_greatestDivisor 41 = .ok (.goto (-32), 3) := by decide +kernel
theorem dX10_greatestDivisor_44 : decode cX10_greatestDivisor 44 = .ok (.lload 4, 2) := by decide +kernel
theorem dX10_greatestDivisor_46 : decode cX10_greatestDivisor 46 = .ok (.lreturn, 1) := by decide +kernel
theorem dX10_raised_0 : decode cX10_raised 0 = .ok (.lconst 1, 1) := by decide +kernel
theorem dX10_raised_1 : decode cX10_raised 1 = .ok (.lstore_n 2, 1) := by decide +kernel
theorem dX10_raised_2 : decode cX10_raised 2 = .ok (.iconst 0, 1) := by decide +kernel
theorem dX10_raised_3 : decode cX10_raised 3 = .ok (.istore 4, 2) := by decide +kernel
theorem dX10_raised_5 : decode cX10_raised 5 = .ok (.iload 4, 2) := by decide +kernel
theorem dX10_raised_7 : decode cX10_raised 7 = .ok (.iload_n 1, 1) := by decide +kernel
theorem dX10_raised_8 : decode cX10_raised 8 = .ok (.if_icmp .ge 14, 3) := by decide +kernel
theorem dX10_raised_11 : decode cX10_raised 11 = .ok (.lload_n 2, 1) := by decide +kernel
theorem dX10_raised_12 : decode cX10_raised 12 = .ok (.iload_n 0, 1) := by decide +kernel
theorem dX10_raised_13 : decode cX10_raised 13 = .ok (.i2l, 1) := by decide +kernel
theorem dX10_raised_14 : decode cX10_raised 14 = .ok (.lmul, 1) := by decide +kernel
theorem dX10_raised_15 : decode cX10_raised 15 = .ok (.lstore_n 2, 1) := by decide +kernel
theorem dX10_raised_16 : decode cX10_raised 16 = .ok (.iinc 4 1, 3) := by decide +kernel
theorem dX10_raised_19 : decode cX10_raised 19 = .ok (.goto (-14), 3) := by decide +kernel
theorem dX10_raised_22 : decode cX10_raised 22 = .ok (.lload_n 2, 1) := by decide +kernel
theorem dX10_raised_23 : decode cX10_raised 23 = .ok (.lreturn, 1) := by decide +kernel
theorem dX11_init_0 : decode cX11_init 0 = .ok (.aload_n 0, 1) := by decide +kernel
theorem dX11_init_1 : decode cX11_init 1 = .ok (.invokespecial 1, 3) := by decide +kernel
theorem dX11_init_4 : decode cX11_init 4 = .ok (.aload_n 0, 1) := by decide +kernel
theorem dX11_init_5 : decode cX11_init 5 = .ok (.bipush 99, 2) := by decide +kernel
theorem dX11_init_7 : decode cX11_init 7 = .ok (.newarray .int, 2) := by decide +kernel
theorem dX11_init_9 : decode cX11_init 9 = .ok (.putfield 9, 3) := by decide +kernel
theorem dX11_init_12 : decode cX11_init 12 = .ok (.aload_n 0, 1) := by decide +kernel
theorem dX11_init_13 : decode cX11_init 13 = .ok (.bipush 99, 2) := by decide +kernel
theorem dX11_init_15 : decode cX11_init 15 = .ok (.newarray .int, 2) := by decide +kernel
theorem dX11_init_17 : decode cX11_init 17 = .ok (.putfield 13, 3) := by decide +kernel
theorem dX11_init_20 : decode cX11_init 20 = .ok (.aload_n 0, 1) := by decide +kernel
theorem dX11_init_21 : decode cX11_init 21 = .ok (.bipush 99, 2) := by decide +kernel
theorem dX11_init_23 : decode cX11_init 23 = .ok (.newarray .int, 2) := by decide +kernel
theorem dX11_init_25 : decode cX11_init 25 = .ok (.putfield 16, 3) := by decide +kernel
theorem dX11_init_28 : decode cX11_init 28 = .ok (.aload_n 0, 1) := by decide +kernel
theorem dX11_init_29 : decode cX11_init 29 = .ok (.bipush 99, 2) := by decide +kernel
theorem dX11_init_31 : decode cX11_init 31 = .ok (.newarray .int, 2) := by decide +kernel
theorem dX11_init_33 : decode cX11_init 33 = .ok (.putfield 19, 3) := by decide +kernel
theorem dX11_init_36 : decode cX11_init 36 = .ok (.aload_n 0, 1) := by decide +kernel
theorem dX11_init_37 : decode cX11_init 37 = .ok (.bipush 96, 2) := by decide +kernel
theorem dX11_init_39 : decode cX11_init 39 = .ok (.newarray .int, 2) := by decide +kernel
theorem dX11_init_41 : decode cX11_init 41 = .ok (.putfield 22, 3) := by decide +kernel
theorem dX11_init_44 : decode cX11_init 44 = .ok (.aload_n 0, 1) := by decide +kernel
theorem dX11_init_45 : decode cX11_init 45 = .ok (.bipush 16, 2) := by decide +kernel
theorem dX11_init_47 : decode cX11_init 47 = .ok (.newarray .int, 2) := by decide +kernel
theorem dX11_init_49 : decode cX11_init 49 = .ok (.putfield 25, 3) := by decide +kernel
theorem dX11_init_52 : decode cX11_init 52 = .ok (.aload_n 0, 1) := by decide +kernel
theorem dX11_init_53 : decode cX11_init 53 = .ok (.bipush 7, 2) := by decide +kernel
theorem dX11_init_55 : decode cX11_init 55 = .ok (.newarray .int, 2) := by decide +kernel
theorem dX11_init_57 : decode cX11_init 57 = .ok (.putfield 28, 3) := by decide +kernel
theorem dX11_init_60 : decode cX11_init 60 = .ok (.aload_n 0, 1) := by decide +kernel
theorem dX11_init_61 : decode cX11_init 61 = .ok (.iconst 3, 1) := by decide +kernel
theorem dX11_init_62 : decode cX11_init 62 = .ok (.newarray .int, 2) := by decide +kernel
theorem dX11_init_64 : decode cX11_init 64 = .ok (.putfield 31, 3) := by decide +kernel
theorem dX11_init_67 : decode cX11_init 67 = .ok (.aload_n 0, 1) := by decide +kernel
theorem dX11_init_68 : decode cX11_init 68 = .ok (.getfield 9, 3) := by decide +kernel
theorem dX11_init_71 : decode cX11_init 71 = .ok (.iconst 2, 1) := by decide +kernel
theorem dX11_init_72 : decode cX11_init 72 = .ok (.iconst 1, 1) := by decide +kernel
theorem dX11_init_73 : decode cX11_init 73 = .ok (.iastore, 1) := by decide +kernel
theorem dX11_init_74 : decode cX11_init 74 = .ok (.return_, 1) := by decide +kernel
theorem dX11_isIn_0 : decode cX11_isIn 0 = .ok (.iload_n 0, 1) := by decide +kernel
theorem dX11_isIn_1 : decode cX11_isIn 1 = .ok (.iload_n 1, 1) := by decide +kernel
theorem dX11_isIn_2 : decode cX11_isIn 2 = .ok (.if_icmp .lt 12, 3) := by decide +kernel
theorem dX11_isIn_5 : decode cX11_isIn 5 = .ok (.iload_n 0, 1) := by decide +kernel
theorem dX11_isIn_6 : decode cX11_isIn 6 = .ok (.iload_n 2, 1) := by decide +kernel
theorem dX11_isIn_7 : decode cX11_isIn 7 = .ok (.if_icmp .gt 7, 3) := by decide +kernel
theorem dX11_isIn_10 : decode cX11_isIn 10 = .ok (.iconst 1, 1) := by decide +kernel
theorem dX11_isIn_11 : decode cX11_isIn 11 = .ok (.goto 4, 3) := by decide +kernel
theorem dX11_isIn_14 : decode cX11_isIn 14 = .ok (.iconst 0, 1) := by decide +kernel
theorem dX11_isIn_15 : decode cX11_isIn 15 = .ok (.ireturn, 1) := by decide +kernel
theorem dX11_held_0 : decode cX11_held 0 = .ok (.iload_n 0, 1) := by decide +kernel
theorem dX11_held_1 : decode cX11_held 1 = .ok (.ifCond .ge 7, 3) := by decide +kernel
theorem dX11_held_4 : decode cX11_held 4 = .ok (.iconst 0, 1) := by decide +kernel
theorem dX11_held_5 : decode cX11_held 5 = .ok (.goto 15, 3) := by decide +kernel
theorem dX11_held_8 : decode cX11_held 8 = .ok (.iload_n 0, 1) := by decide +kernel
theorem dX11_held_9 : decode cX11_held 9 = .ok (.bipush 99, 2) := by decide +kernel
theorem dX11_held_11 : decode cX11_held 11 = .ok (.if_icmp .le 8, 3) := by decide +kernel
theorem dX11_held_14 : decode cX11_held 14 = .ok (.bipush 99, 2) := by decide +kernel
theorem dX11_held_16 : decode cX11_held 16 = .ok (.goto 4, 3) := by decide +kernel
theorem dX11_held_19 : decode cX11_held 19 = .ok (.iload_n 0, 1) := by decide +kernel
theorem dX11_held_20 : decode cX11_held 20 = .ok (.ireturn, 1) := by decide +kernel
theorem dX11_copies_0 : decode cX11_copies 0 = .ok (.iconst 0, 1) := by decide +kernel
theorem dX11_copies_1 : decode cX11_copies 1 = .ok (.istore_n 2, 1) := by decide +kernel
theorem dX11_copies_2 : decode cX11_copies 2 = .ok (.iload_n 2, 1) := by decide +kernel
theorem dX11_copies_3 : decode cX11_copies 3 = .ok (.bipush 99, 2) := by decide +kernel
theorem dX11_copies_5 : decode cX11_copies 5 = .ok (.if_icmp .ge 15, 3) := by decide +kernel
theorem dX11_copies_8 : decode cX11_copies 8 = .ok (.aload_n 1, 1) := by decide +kernel
theorem dX11_copies_9 : decode cX11_copies 9 = .ok (.iload_n 2, 1) := by decide +kernel
theorem dX11_copies_10 : decode cX11_copies 10 = .ok (.aload_n 0, 1) := by decide +kernel
theorem dX11_copies_11 : decode cX11_copies 11 = .ok (.iload_n 2, 1) := by decide +kernel
theorem dX11_copies_12 : decode cX11_copies 12 = .ok (.iaload, 1) := by decide +kernel
theorem dX11_copies_13 : decode cX11_copies 13 = .ok (.iastore, 1) := by decide +kernel
theorem dX11_copies_14 : decode cX11_copies 14 = .ok (.iinc 2 1, 3) := by decide +kernel
theorem dX11_copies_17 : decode cX11_copies 17 = .ok (.goto (-15), 3) := by decide +kernel
theorem dX11_copies_20 : decode cX11_copies 20 = .ok (.return_, 1) := by decide +kernel
theorem dX11_no_0 : decode cX11_no 0 = .ok (.aload_n 0, 1) := by decide +kernel
theorem dX11_no_1 : decode cX11_no 1 = .ok (.getfield 28, 3) := by decide +kernel
theorem dX11_no_4 : decode cX11_no 4 = .ok (.iload_n 1, 1) := by decide +kernel
theorem dX11_no_5 : decode cX11_no 5 = .ok (.ineg, 1) := by decide +kernel
theorem dX11_no_6 : decode cX11_no 6 = .ok (.dup2, 1) := by decide +kernel
theorem dX11_no_7 : decode cX11_no 7 = .ok (.iaload, 1) := by decide +kernel
theorem dX11_no_8 : decode cX11_no 8 = .ok (.iconst 1, 1) := by decide +kernel
theorem dX11_no_9 : decode cX11_no 9 = .ok (.iadd, 1) := by decide +kernel
theorem dX11_no_10 : decode cX11_no 10 = .ok (.iastore, 1) := by decide +kernel
theorem dX11_no_11 : decode cX11_no 11 = .ok (.iload_n 1, 1) := by decide +kernel
theorem dX11_no_12 : decode cX11_no 12 = .ok (.ireturn, 1) := by decide +kernel
set_option maxRecDepth 20000 in
theorem ggX11_noWide_X11_no : GoodIn wsX11_noWide wsX11_no := goodIn_r _ [6, 7, 8, 9, 10, 11, 12, 13, 14, 15, 16, 17, 18, 19, 20] (by decide +kernel) (by decide +kernel)
set_option maxRecDepth 20000 in
theorem gX11_noWide_X11_no : GoodIn wsX11_noWide (wsV RX11 36 RX11 yX11_no wsX11_no) := goodIn_app (goodIn_of _ (by decide +kernel)) ggX11_noWide_X11_no
theorem dX11_noWide_0 : decode cX11_noWide 0 = .ok (.ldc2_w 34, 3) := by decide +kernel
theorem dX11_noWide_3 : decode cX11_noWide 3 = .ok (.aload_n 0, 1) := by decide +kernel
theorem dX11_noWide_4 : decode cX11_noWide 4 = .ok (.iload_n 1, 1) := by decide +kernel
theorem dX11_noWide_5 : decode cX11_noWide 5 = .ok (.invokevirtual 36, 3) := by decide +kernel
theorem dX11_noWide_8 : decode cX11_noWide 8 = .ok (.i2l, 1) := by decide +kernel
theorem dX11_noWide_9 : decode cX11_noWide 9 = .ok (.lsub, 1) := by decide +kernel
theorem dX11_noWide_10 : decode cX11_noWide 10 = .ok (.lreturn, 1) := by decide +kernel
theorem dX11_of_0 : decode cX11_of 0 = .ok (.iconst 3, 1) := by decide +kernel
theorem dX11_of_1 : decode cX11_of 1 = .ok (.iconst 4, 1) := by decide +kernel
theorem dX11_of_2 : decode cX11_of 2 = .ok (.iload_n 0, 1) := by decide +kernel
theorem dX11_of_3 : decode cX11_of 3 = .ok (.imul, 1) := by decide +kernel
theorem dX11_of_4 : decode cX11_of 4 = .ok (.iadd, 1) := by decide +kernel
theorem dX11_of_5 : decode cX11_of 5 = .ok (.iload_n 1, 1) := by decide +kernel
theorem dX11_of_6 : decode cX11_of 6 = .ok (.iadd, 1) := by decide +kernel
theorem dX11_of_7 : decode cX11_of 7 = .ok (.ireturn, 1) := by decide +kernel
theorem dX11_by_0 : decode cX11_by 0 = .ok (.bipush 35, 2) := by decide +kernel
theorem dX11_by_2 : decode cX11_by 2 = .ok (.bipush 8, 2) := by decide +kernel
theorem dX11_by_4 : decode cX11_by 4 = .ok (.iload_n 0, 1) := by decide +kernel
theorem dX11_by_5 : decode cX11_by 5 = .ok (.imul, 1) := by decide +kernel
theorem dX11_by_6 : decode cX11_by 6 = .ok (.iadd, 1) := by decide +kernel
theorem dX11_by_7 : decode cX11_by 7 = .ok (.iload_n 1, 1) := by decide +kernel
theorem dX11_by_8 : decode cX11_by 8 = .ok (.iadd, 1) := by decide +kernel
theorem dX11_by_9 : decode cX11_by 9 = .ok (.ireturn, 1) := by decide +kernel
set_option maxRecDepth 20000 in
theorem ggX11_isOne_X11_isIn : GoodIn wsX11_isOne wsX11_isIn := goodIn_r _ [5] (by decide +kernel) (by decide +kernel)
set_option maxRecDepth 20000 in
theorem gX11_isOne_X11_isIn : GoodIn wsX11_isOne (va_wsS RX11 40 yX11_isIn wsX11_isIn) := goodIn_app (goodIn_of _ (by decide +kernel)) ggX11_isOne_X11_isIn
theorem dX11_isOne_0 : decode cX11_isOne 0 = .ok (.iload_n 1, 1) := by decide +kernel
theorem dX11_isOne_1 : decode cX11_isOne 1 = .ok (.iconst 0, 1) := by decide +kernel
theorem dX11_isOne_2 : decode cX11_isOne 2 = .ok (.aload_n 0, 1) := by decide +kernel
theorem dX11_isOne_3 : decode cX11_isOne 3 = .ok (.getfield 9, 3) := by decide +kernel
theorem dX11_isOne_6 : decode cX11_isOne 6 = .ok (.iconst 0, 1) := by decide +kernel
theorem dX11_isOne_7 : decode cX11_isOne 7 = .ok (.iaload, 1) := by decide +kernel
theorem dX11_isOne_8 : decode cX11_isOne 8 = .ok (.iconst 1, 1) := by decide +kernel
theorem dX11_isOne_9 : decode cX11_isOne 9 = .ok (.isub, 1) := by decide +kernel
theorem dX11_isOne_10 : decode cX11_isOne 10 = .ok (.invokestatic 40, 3) := by decide +kernel
theorem dX11_isOne_13 : decode cX11_isOne 13 = .ok (.ireturn, 1) := by decide +kernel
set_option maxRecDepth 20000 in
theorem ggX11_areTwo_X11_isOne : GoodIn wsX11_areTwo wsX11_isOne := goodIn_r _ [5, 6, 7, 8, 4, 9, 10, 11, 12, 13, 14, 15, 16, 17, 18, 19, 20, 21, 22] (by decide +kernel) (by decide +kernel)
set_option maxRecDepth 20000 in
theorem gX11_areTwo_X11_isOne : GoodIn wsX11_areTwo (wsV RX11 44 RX11 yX11_isOne wsX11_isOne) := goodIn_app (goodIn_of _ (by decide +kernel)) ggX11_areTwo_X11_isOne
theorem dX11_areTwo_0 : decode cX11_areTwo 0 = .ok (.aload_n 0, 1) := by decide +kernel
theorem dX11_areTwo_1 : decode cX11_areTwo 1 = .ok (.iload_n 1, 1) := by decide +kernel
theorem dX11_areTwo_2 : decode cX11_areTwo 2 = .ok (.invokevirtual 44, 3) := by decide +kernel
theorem dX11_areTwo_5 : decode cX11_areTwo 5 = .ok (.ifCond .eq 20, 3) := by decide +kernel
theorem dX11_areTwo_8 : decode cX11_areTwo 8 = .ok (.aload_n 0, 1) := by decide +kernel
theorem dX11_areTwo_9 : decode cX11_areTwo 9 = .ok (.iload_n 2, 1) := by decide +kernel
theorem dX11_areTwo_10 : decode cX11_areTwo 10 = .ok (.invokevirtual 44, 3) := by decide +kernel
theorem dX11_areTwo_13 : decode cX11_areTwo 13 = .ok (.ifCond .eq 12, 3) := by decide +kernel
theorem dX11_areTwo_16 : decode cX11_areTwo 16 = .ok (.iload_n 1, 1) := by decide +kernel
theorem dX11_areTwo_17 : decode cX11_areTwo 17 = .ok (.iload_n 2, 1) := by decide +kernel
theorem dX11_areTwo_18 : decode cX11_areTwo 18 = .ok (.if_icmp .eq 7, 3) := by decide +kernel
theorem dX11_areTwo_21 : decode cX11_areTwo 21 = .ok (.iconst 1, 1) := by decide +kernel
theorem dX11_areTwo_22 : decode cX11_areTwo 22 = .ok (.goto 4, 3) := by decide +kernel
theorem dX11_areTwo_25 : decode cX11_areTwo 25 = .ok (.iconst 0, 1) := by decide +kernel
theorem dX11_areTwo_26 : decode cX11_areTwo 26 = .ok (.ireturn, 1) := by decide +kernel
set_option maxRecDepth 20000 in
theorem ggX11_isHere_X11_of : GoodIn wsX11_isHere wsX11_of := goodIn_r _ [4] (by decide +kernel) (by decide +kernel)
set_option maxRecDepth 20000 in
theorem gX11_isHere_X11_of : GoodIn wsX11_isHere (va_wsS RX11 48 yX11_of wsX11_of) := goodIn_app (goodIn_of _ (by decide +kernel)) ggX11_isHere_X11_of
theorem dX11_isHere_0 : decode cX11_isHere 0 = .ok (.aload_n 0, 1) := by decide +kernel
theorem dX11_isHere_1 : decode cX11_isHere 1 = .ok (.iload_n 1, 1) := by decide +kernel
theorem dX11_isHere_2 : decode cX11_isHere 2 = .ok (.iconst 2, 1) := by decide +kernel
theorem dX11_isHere_3 : decode cX11_isHere 3 = .ok (.invokestatic 48, 3) := by decide +kernel
theorem dX11_isHere_6 : decode cX11_isHere 6 = .ok (.iaload, 1) := by decide +kernel
theorem dX11_isHere_7 : decode cX11_isHere 7 = .ok (.iconst 1, 1) := by decide +kernel
theorem dX11_isHere_8 : decode cX11_isHere 8 = .ok (.if_icmp .ne 7, 3) := by decide +kernel
theorem dX11_isHere_11 : decode cX11_isHere 11 = .ok (.iconst 1, 1) := by decide +kernel
theorem dX11_isHere_12 : decode cX11_isHere 12 = .ok (.goto 4, 3) := by decide +kernel
theorem dX11_isHere_15 : decode cX11_isHere 15 = .ok (.iconst 0, 1) := by decide +kernel
theorem dX11_isHere_16 : decode cX11_isHere 16 = .ok (.ireturn, 1) := by decide +kernel
theorem dX11_has_0 : decode cX11_has 0 = .ok (.iload_n 0, 1) := by decide +kernel
theorem dX11_has_1 : decode cX11_has 1 = .ok (.iload_n 1, 1) := by decide +kernel
theorem dX11_has_2 : decode cX11_has 2 = .ok (.ishr, 1) := by decide +kernel
theorem dX11_has_3 : decode cX11_has 3 = .ok (.iconst 1, 1) := by decide +kernel
theorem dX11_has_4 : decode cX11_has 4 = .ok (.iand, 1) := by decide +kernel
theorem dX11_has_5 : decode cX11_has 5 = .ok (.iconst 1, 1) := by decide +kernel
theorem dX11_has_6 : decode cX11_has 6 = .ok (.if_icmp .ne 7, 3) := by decide +kernel
theorem dX11_has_9 : decode cX11_has 9 = .ok (.iconst 1, 1) := by decide +kernel
theorem dX11_has_10 : decode cX11_has 10 = .ok (.goto 4, 3) := by decide +kernel
theorem dX11_has_13 : decode cX11_has 13 = .ok (.iconst 0, 1) := by decide +kernel
theorem dX11_has_14 : decode cX11_has 14 = .ok (.ireturn, 1) := by decide +kernel
theorem dX11_bits_0 : decode cX11_bits 0 = .ok (.iconst 0, 1) := by decide +kernel
theorem dX11_bits_1 : decode cX11_bits 1 = .ok (.istore_n 1, 1) := by decide +kernel
theorem dX11_bits_2 : decode cX11_bits 2 = .ok (.iconst 0, 1) := by decide +kernel
theorem dX11_bits_3 : decode cX11_bits 3 = .ok (.istore_n 2, 1) := by decide +kernel
theorem dX11_bits_4 : decode cX11_bits 4 = .ok (.iload_n 2, 1) := by decide +kernel
theorem dX11_bits_5 : decode cX11_bits 5 = .ok (.bipush 8, 2) := by decide +kernel
theorem dX11_bits_7 : decode cX11_bits 7 = .ok (.if_icmp .ge 17, 3) := by decide +kernel
theorem dX11_bits_10 : decode cX11_bits 10 = .ok (.iload_n 1, 1) := by decide +kernel
theorem dX11_bits_11 : decode cX11_bits 11 = .ok (.iload_n 0, 1) := by decide +kernel
theorem dX11_bits_12 : decode cX11_bits 12 = .ok (.iload_n 2, 1) := by decide +kernel
theorem dX11_bits_13 : decode cX11_bits 13 = .ok (.ishr, 1) := by decide +kernel
theorem dX11_bits_14 : decode cX11_bits 14 = .ok (.iconst 1, 1) := by decide +kernel
theorem dX11_bits_15 : decode cX11_bits 15 = .ok (.iand, 1) := by decide +kernel
theorem dX11_bits_16 : decode cX11_bits 16 = .ok (.iadd, 1) := by decide +kernel
theorem dX11_bits_17 : decode cX11_bits 17 = .ok (.istore_n 1, 1) := by decide +kernel
theorem dX11_bits_18 : decode cX11_bits 18 = .ok (.iinc 2 1, 3) := by decide +kernel
theorem dX11_bits_21 : decode cX11_bits 21 = .ok (.goto (-17), 3) := by decide +kernel
theorem dX11_bits_24 : decode cX11_bits 24 = .ok (.iload_n 1, 1) := by decide +kernel
theorem dX11_bits_25 : decode cX11_bits 25 = .ok (.ireturn, 1) := by decide +kernel
set_option maxRecDepth 20000 in
theorem ggX11_changeBy_X11_of : GoodIn wsX11_changeBy wsX11_of := goodIn_r _ [4] (by decide +kernel) (by decide +kernel)
set_option maxRecDepth 20000 in
theorem gX11_changeBy_X11_of : GoodIn wsX11_changeBy (va_wsS RX11 48 yX11_of wsX11_of) := goodIn_app (goodIn_of _ (by decide +kernel)) ggX11_changeBy_X11_of
theorem dX11_changeBy_0 : decode cX11_changeBy 0 = .ok (.aload_n 0, 1) := by decide +kernel
theorem dX11_changeBy_1 : decode cX11_changeBy 1 = .ok (.iload_n 1, 1) := by decide +kernel
theorem dX11_changeBy_2 : decode cX11_changeBy 2 = .ok (.iconst 1, 1) := by decide +kernel
theorem dX11_changeBy_3 : decode cX11_changeBy 3 = .ok (.invokestatic 48, 3) := by decide +kernel
theorem dX11_changeBy_6 : decode cX11_changeBy 6 = .ok (.iaload, 1) := by decide +kernel
theorem dX11_changeBy_7 : decode cX11_changeBy 7 = .ok (.istore_n 2, 1) := by decide +kernel
theorem dX11_changeBy_8 : decode cX11_changeBy 8 = .ok (.aload_n 0, 1) := by decide +kernel
theorem dX11_changeBy_9 : decode cX11_changeBy 9 = .ok (.iconst 1, 1) := by decide +kernel
theorem dX11_changeBy_10 : decode cX11_changeBy 10 = .ok (.iaload, 1) := by decide +kernel
theorem dX11_changeBy_11 : decode cX11_changeBy 11 = .ok (.istore_n 3, 1) := by decide +kernel
theorem dX11_changeBy_12 : decode cX11_changeBy 12 = .ok (.aload_n 0, 1) := by decide +kernel
theorem dX11_changeBy_13 : decode cX11_changeBy 13 = .ok (.iload_n 1, 1) := by decide +kernel
theorem dX11_changeBy_14 : decode cX11_changeBy 14 = .ok (.iconst 3, 1) := by decide +kernel
theorem dX11_changeBy_15 : decode cX11_changeBy 15 = .ok (.invokestatic 48, 3) := by decide +kernel
theorem dX11_changeBy_18 : decode cX11_changeBy 18 = .ok (.iaload, 1) := by decide +kernel
theorem dX11_changeBy_19 : decode cX11_changeBy 19 = .ok (.bipush 10, 2) := by decide +kernel
theorem dX11_changeBy_21 : decode cX11_changeBy 21 = .ok (.idiv, 1) := by decide +kernel
theorem dX11_changeBy_22 : decode cX11_changeBy 22 = .ok (.ineg, 1) := by decide +kernel
theorem dX11_changeBy_23 : decode cX11_changeBy 23 = .ok (.istore 4, 2) := by decide +kernel
theorem dX11_changeBy_25 : decode cX11_changeBy 25 = .ok (.iload_n 3, 1) := by decide +kernel
theorem dX11_changeBy_26 : decode cX11_changeBy 26 = .ok (.bipush 10, 2) := by decide +kernel
theorem dX11_changeBy_28 : decode cX11_changeBy 28 = .ok (.irem, 1) := by decide +kernel
theorem dX11_changeBy_29 : decode cX11_changeBy 29 = .ok (.bipush 8, 2) := by decide +kernel
theorem dX11_changeBy_31 : decode cX11_changeBy 31 = .ok (.if_icmp .ge 10, 3) := by decide +kernel
theorem dX11_changeBy_34 : decode cX11_changeBy 34 = .ok (.iload_n 3, 1) := by decide +kernel
theorem dX11_changeBy_35 : decode cX11_changeBy 35 = .ok (.bipush 10, 2) := by decide +kernel
theorem dX11_changeBy_37 : decode cX11_changeBy 37 = .ok (.irem, 1) := by decide +kernel
theorem dX11_changeBy_38 : decode cX11_changeBy 38 = .ok (.ifCond .ne 7, 3) := by decide +kernel
theorem dX11_changeBy_41 : decode cX11_changeBy 41 = .ok (.iconst 2, 1) := by decide +kernel
theorem dX11_changeBy_42 : decode cX11_changeBy 42 = .ok (.goto 4, 3) := by decide +kernel
theorem dX11_changeBy_45 : decode cX11_changeBy 45 = .ok (.iconst (-1), 1) := by decide +kernel
theorem dX11_changeBy_46 : decode cX11_changeBy 46 = .ok (.istore 5, 2) := by decide +kernel
theorem dX11_changeBy_48 : decode cX11_changeBy 48 = .ok (.aload_n 0, 1) := by decide +kernel
theorem dX11_changeBy_49 : decode cX11_changeBy 49 = .ok (.iload_n 1, 1) := by decide +kernel
theorem dX11_changeBy_50 : decode cX11_changeBy 50 = .ok (.iconst 0, 1) := by decide +kernel
theorem dX11_changeBy_51 : decode cX11_changeBy 51 = .ok (.invokestatic 48, 3) := by decide +kernel
theorem dX11_changeBy_54 : decode cX11_changeBy 54 = .ok (.iaload, 1) := by decide +kernel
theorem dX11_changeBy_55 : decode cX11_changeBy 55 = .ok (.tableswitch 63 1 5 #[33, 36, 39, 44, 46], 33) := by decide +kernel
theorem dX11_changeBy_88 : decode cX11_changeBy 88 = .ok (.iload 4, 2) := by decide +kernel
theorem dX11_changeBy_90 : decode cX11_changeBy 90 = .ok (.ireturn, 1) := by decide +kernel
theorem dX11_changeBy_91 : decode cX11_changeBy 91 = .ok (.iload 5, 2) := by decide +kernel
theorem dX11_changeBy_93 : decode cX11_changeBy 93 = .ok (.ireturn, 1) := by decide +kernel
theorem dX11_changeBy_94 : decode cX11_changeBy 94 = .ok (.iload 4, 2) := by decide +kernel
theorem dX11_changeBy_96 : decode cX11_changeBy 96 = .ok (.iload_n 2, 1) := by decide +kernel
theorem dX11_changeBy_97 : decode cX11_changeBy 97 = .ok (.iadd, 1) := by decide +kernel
theorem dX11_changeBy_98 : decode cX11_changeBy 98 = .ok (.ireturn, 1) := by decide +kernel
theorem dX11_changeBy_99 : decode cX11_changeBy 99 = .ok (.iconst 0, 1) := by decide +kernel
theorem dX11_changeBy_100 : decode cX11_changeBy 100 = .ok (.ireturn, 1) := by decide +kernel
theorem dX11_changeBy_101 : decode cX11_changeBy 101 = .ok (.iload_n 3, 1) := by decide +kernel
theorem dX11_changeBy_102 : decode cX11_changeBy 102 = .ok (.iconst 2, 1) := by decide +kernel
theorem dX11_changeBy_103 : decode cX11_changeBy 103 = .ok (.irem, 1) := by decide +kernel
theorem dX11_changeBy_104 : decode cX11_changeBy 104 = .ok (.iconst 1, 1) := by decide +kernel
theorem dX11_changeBy_105 : decode cX11_changeBy 105 = .ok (.if_icmp .ne 10, 3) := by decide +kernel
theorem dX11_changeBy_108 : decode cX11_changeBy 108 = .ok (.iload 5, 2) := by decide +kernel
theorem dX11_changeBy_110 : decode cX11_changeBy 110 = .ok (.iconst 2, 1) := by decide +kernel
theorem dX11_changeBy_111 : decode cX11_changeBy 111 = .ok (.iadd, 1) := by decide +kernel
theorem dX11_changeBy_112 : decode cX11_changeBy 112 = .ok (.goto 5, 3) := by decide +kernel
theorem dX11_changeBy_115 : decode cX11_changeBy 115 = .ok (.iload 5, 2) := by decide +kernel
theorem dX11_changeBy_117 : decode cX11_changeBy 117 = .ok (.ireturn, 1) := by decide +kernel
theorem dX11_changeBy_118 : decode cX11_changeBy 118 = .ok (.iconst (-1), 1) := by decide +kernel
theorem dX11_changeBy_119 : decode cX11_changeBy 119 = .ok (.ireturn, 1) := by decide +kernel
set_option maxRecDepth 20000 in
theorem ggX11_mayBeNamed_X11_of : GoodIn wsX11_mayBeNamed wsX11_of := goodIn_r _ [4] (by decide +kernel) (by decide +kernel)
set_option maxRecDepth 20000 in
theorem gX11_mayBeNamed_X11_of : GoodIn wsX11_mayBeNamed (va_wsS RX11 48 yX11_of wsX11_of) := goodIn_app (goodIn_of _ (by decide +kernel)) ggX11_mayBeNamed_X11_of
theorem dX11_mayBeNamed_0 : decode cX11_mayBeNamed 0 = .ok (.aload_n 0, 1) := by decide +kernel
theorem dX11_mayBeNamed_1 : decode cX11_mayBeNamed 1 = .ok (.iload_n 1, 1) := by decide +kernel
theorem dX11_mayBeNamed_2 : decode cX11_mayBeNamed 2 = .ok (.iconst 0, 1) := by decide +kernel
theorem dX11_mayBeNamed_3 : decode cX11_mayBeNamed 3 = .ok (.invokestatic 48, 3) := by decide +kernel
theorem dX11_mayBeNamed_6 : decode cX11_mayBeNamed 6 = .ok (.iaload, 1) := by decide +kernel
theorem dX11_mayBeNamed_7 : decode cX11_mayBeNamed 7 = .ok (.istore_n 2, 1) := by decide +kernel
theorem dX11_mayBeNamed_8 : decode cX11_mayBeNamed 8 = .ok (.iload_n 2, 1) := by decide +kernel
theorem dX11_mayBeNamed_9 : decode cX11_mayBeNamed 9 = .ok (.iconst 4, 1) := by decide +kernel
theorem dX11_mayBeNamed_10 : decode cX11_mayBeNamed 10 = .ok (.if_icmp .eq 23, 3) := by decide +kernel
theorem dX11_mayBeNamed_13 : decode cX11_mayBeNamed 13 = .ok (.iload_n 2, 1) := by decide +kernel
theorem dX11_mayBeNamed_14 : decode cX11_mayBeNamed 14 = .ok (.iconst 5, 1) := by decide +kernel
theorem dX11_mayBeNamed_15 : decode cX11_mayBeNamed 15 = .ok (.if_icmp .ne 14, 3) := by decide +kernel
theorem dX11_mayBeNamed_18 : decode cX11_mayBeNamed 18 = .ok (.aload_n 0, 1) := by decide +kernel
theorem dX11_mayBeNamed_19 : decode cX11_mayBeNamed 19 = .ok (.iload_n 1, 1) := by decide +kernel
theorem dX11_mayBeNamed_20 : decode cX11_mayBeNamed 20 = .ok (.iconst 1, 1) := by decide +kernel
theorem dX11_mayBeNamed_21 : decode cX11_mayBeNamed 21 = .ok (.invokestatic 48, 3) := by decide +kernel
theorem dX11_mayBeNamed_24 : decode cX11_mayBeNamed 24 = .ok (.iaload, 1) := by decide +kernel
theorem dX11_mayBeNamed_25 : decode cX11_mayBeNamed 25 = .ok (.iconst 5, 1) := by decide +kernel
theorem dX11_mayBeNamed_26 : decode cX11_mayBeNamed 26 = .ok (.if_icmp .ge 7, 3) := by decide +kernel
theorem dX11_mayBeNamed_29 : decode cX11_mayBeNamed 29 = .ok (.iconst 1, 1) := by decide +kernel
theorem dX11_mayBeNamed_30 : decode cX11_mayBeNamed 30 = .ok (.goto 4, 3) := by decide +kernel
theorem dX11_mayBeNamed_33 : decode cX11_mayBeNamed 33 = .ok (.iconst 0, 1) := by decide +kernel
theorem dX11_mayBeNamed_34 : decode cX11_mayBeNamed 34 = .ok (.ireturn, 1) := by decide +kernel
set_option maxRecDepth 20000 in
theorem ggX11_knownIn_X11_isHere : GoodIn wsX11_knownIn wsX11_isHere := goodIn_r _ [4, 5, 6, 3, 7] (by decide +kernel) (by decide +kernel)
set_option maxRecDepth 20000 in
theorem gX11_knownIn_X11_isHere : GoodIn wsX11_knownIn (va_wsS RX11 52 yX11_isHere wsX11_isHere) := goodIn_app (goodIn_of _ (by decide +kernel)) ggX11_knownIn_X11_isHere
set_option maxRecDepth 20000 in
theorem ggX11_knownIn_X11_by : GoodIn wsX11_knownIn wsX11_by := goodIn_r _ [10] (by decide +kernel) (by decide +kernel)
set_option maxRecDepth 20000 in
theorem gX11_knownIn_X11_by : GoodIn wsX11_knownIn (va_wsS RX11 56 yX11_by wsX11_by) := goodIn_app (goodIn_of _ (by decide +kernel)) ggX11_knownIn_X11_by
theorem dX11_knownIn_0 : decode cX11_knownIn 0 = .ok (.iconst 0, 1) := by decide +kernel
theorem dX11_knownIn_1 : decode cX11_knownIn 1 = .ok (.istore_n 2, 1) := by decide +kernel
theorem dX11_knownIn_2 : decode cX11_knownIn 2 = .ok (.iconst 0, 1) := by decide +kernel
theorem dX11_knownIn_3 : decode cX11_knownIn 3 = .ok (.istore_n 3, 1) := by decide +kernel
theorem dX11_knownIn_4 : decode cX11_knownIn 4 = .ok (.iload_n 3, 1) := by decide +kernel
theorem dX11_knownIn_5 : decode cX11_knownIn 5 = .ok (.aload_n 0, 1) := by decide +kernel
theorem dX11_knownIn_6 : decode cX11_knownIn 6 = .ok (.iconst 0, 1) := by decide +kernel
theorem dX11_knownIn_7 : decode cX11_knownIn 7 = .ok (.iaload, 1) := by decide +kernel
theorem dX11_knownIn_8 : decode cX11_knownIn 8 = .ok (.if_icmp .ge 36, 3) := by decide +kernel
theorem dX11_knownIn_11 : decode cX11_knownIn 11 = .ok (.iload_n 2, 1) := by decide +kernel
theorem dX11_knownIn_12 : decode cX11_knownIn 12 = .ok (.iload_n 3, 1) := by decide +kernel
theorem dX11_knownIn_13 : decode cX11_knownIn 13 = .ok (.iload_n 1, 1) := by decide +kernel
theorem dX11_knownIn_14 : decode cX11_knownIn 14 = .ok (.if_icmp .eq 21, 3) := by decide +kernel
theorem dX11_knownIn_17 : decode cX11_knownIn 17 = .ok (.aload_n 0, 1) := by decide +kernel
theorem dX11_knownIn_18 : decode cX11_knownIn 18 = .ok (.iload_n 3, 1) := by decide +kernel
theorem dX11_knownIn_19 : decode cX11_knownIn 19 = .ok (.invokestatic 52, 3) := by decide +kernel
theorem dX11_knownIn_22 : decode cX11_knownIn 22 = .ok (.ifCond .eq 13, 3) := by decide +kernel
theorem dX11_knownIn_25 : decode cX11_knownIn 25 = .ok (.aload_n 0, 1) := by decide +kernel
theorem dX11_knownIn_26 : decode cX11_knownIn 26 = .ok (.iload_n 3, 1) := by decide +kernel
theorem dX11_knownIn_27 : decode cX11_knownIn 27 = .ok (.iload_n 1, 1) := by decide +kernel
theorem dX11_knownIn_28 : decode cX11_knownIn 28 = .ok (.invokestatic 56, 3) := by decide +kernel
theorem dX11_knownIn_31 : decode cX11_knownIn 31 = .ok (.iaload, 1) := by decide +kernel
theorem dX11_knownIn_32 : decode cX11_knownIn 32 = .ok (.goto 4, 3) := by decide +kernel
theorem dX11_knownIn_35 : decode cX11_knownIn 35 = .ok (.iconst 0, 1) := by decide +kernel
theorem dX11_knownIn_36 : decode cX11_knownIn 36 = .ok (.iadd, 1) := by decide +kernel
theorem dX11_knownIn_37 : decode cX11_knownIn 37 = .ok (.istore_n 2, 1) := by decide +kernel
theorem dX11_knownIn_38 : decode cX11_knownIn 38 = .ok (.iinc 3 1, 3) := by decide +kernel
theorem dX11_knownIn_41 : decode cX11_knownIn 41 = .ok (.goto (-37), 3) := by decide +kernel
theorem dX11_knownIn_44 : decode cX11_knownIn 44 = .ok (.iload_n 2, 1) := by decide +kernel
theorem dX11_knownIn_45 : decode cX11_knownIn 45 = .ok (.ireturn, 1) := by decide +kernel
set_option maxRecDepth 20000 in
theorem ggX11_leastIn_X11_isHere : GoodIn wsX11_leastIn wsX11_isHere := goodIn_r _ [4, 5, 6, 3, 7] (by decide +kernel) (by decide +kernel)
set_option maxRecDepth 20000 in
theorem gX11_leastIn_X11_isHere : GoodIn wsX11_leastIn (va_wsS RX11 52 yX11_isHere wsX11_isHere) := goodIn_app (goodIn_of _ (by decide +kernel)) ggX11_leastIn_X11_isHere
set_option maxRecDepth 20000 in
theorem ggX11_leastIn_X11_mayBeNamed : GoodIn wsX11_leastIn wsX11_mayBeNamed := goodIn_r _ [10, 5, 6, 3, 7] (by decide +kernel) (by decide +kernel)
set_option maxRecDepth 20000 in
theorem gX11_leastIn_X11_mayBeNamed : GoodIn wsX11_leastIn (va_wsS RX11 59 yX11_mayBeNamed wsX11_mayBeNamed) := goodIn_app (goodIn_of _ (by decide +kernel)) ggX11_leastIn_X11_mayBeNamed
set_option maxRecDepth 20000 in
theorem ggX11_leastIn_X11_knownIn : GoodIn wsX11_leastIn wsX11_knownIn := goodIn_r _ [13, 1, 2, 3, 4, 5, 6, 7, 14, 15, 16] (by decide +kernel) (by decide +kernel)
set_option maxRecDepth 20000 in
theorem gX11_leastIn_X11_knownIn : GoodIn wsX11_leastIn (va_wsS RX11 62 yX11_knownIn wsX11_knownIn) := goodIn_app (goodIn_of _ (by decide +kernel)) ggX11_leastIn_X11_knownIn
theorem dX11_leastIn_0 : decode cX11_leastIn 0 = .ok (.bipush (-9), 2) := by decide +kernel
theorem dX11_leastIn_2 : decode cX11_leastIn 2 = .ok (.istore_n 1, 1) := by decide +kernel
theorem dX11_leastIn_3 : decode cX11_leastIn 3 = .ok (.iconst 0, 1) := by decide +kernel
theorem dX11_leastIn_4 : decode cX11_leastIn 4 = .ok (.istore_n 2, 1) := by decide +kernel
theorem dX11_leastIn_5 : decode cX11_leastIn 5 = .ok (.iload_n 2, 1) := by decide +kernel
theorem dX11_leastIn_6 : decode cX11_leastIn 6 = .ok (.aload_n 0, 1) := by decide +kernel
theorem dX11_leastIn_7 : decode cX11_leastIn 7 = .ok (.iconst 0, 1) := by decide +kernel
theorem dX11_leastIn_8 : decode cX11_leastIn 8 = .ok (.iaload, 1) := by decide +kernel
theorem dX11_leastIn_9 : decode cX11_leastIn 9 = .ok (.if_icmp .ge 44, 3) := by decide +kernel
theorem dX11_leastIn_12 : decode cX11_leastIn 12 = .ok (.aload_n 0, 1) := by decide +kernel
theorem dX11_leastIn_13 : decode cX11_leastIn 13 = .ok (.iload_n 2, 1) := by decide +kernel
theorem dX11_leastIn_14 : decode cX11_leastIn 14 = .ok (.invokestatic 52, 3) := by decide +kernel
theorem dX11_leastIn_17 : decode cX11_leastIn 17 = .ok (.ifCond .eq 30, 3) := by decide +kernel
theorem dX11_leastIn_20 : decode cX11_leastIn 20 = .ok (.aload_n 0, 1) := by decide +kernel
theorem dX11_leastIn_21 : decode cX11_leastIn 21 = .ok (.iload_n 2, 1) := by decide +kernel
theorem dX11_leastIn_22 : decode cX11_leastIn 22 = .ok (.invokestatic 59, 3) := by decide +kernel
theorem dX11_leastIn_25 : decode cX11_leastIn 25 = .ok (.ifCond .eq 22, 3) := by decide +kernel
theorem dX11_leastIn_28 : decode cX11_leastIn 28 = .ok (.iload_n 1, 1) := by decide +kernel
theorem dX11_leastIn_29 : decode cX11_leastIn 29 = .ok (.ifCond .lt 16, 3) := by decide +kernel
theorem dX11_leastIn_32 : decode cX11_leastIn 32 = .ok (.aload_n 0, 1) := by decide +kernel
theorem dX11_leastIn_33 : decode cX11_leastIn 33 = .ok (.iload_n 2, 1) := by decide +kernel
theorem dX11_leastIn_34 : decode cX11_leastIn 34 = .ok (.invokestatic 62, 3) := by decide +kernel
theorem dX11_leastIn_37 : decode cX11_leastIn 37 = .ok (.aload_n 0, 1) := by decide +kernel
theorem dX11_leastIn_38 : decode cX11_leastIn 38 = .ok (.iload_n 1, 1) := by decide +kernel
theorem dX11_leastIn_39 : decode cX11_leastIn 39 = .ok (.invokestatic 62, 3) := by decide +kernel
theorem dX11_leastIn_42 : decode cX11_leastIn 42 = .ok (.if_icmp .ge 5, 3) := by decide +kernel
theorem dX11_leastIn_45 : decode cX11_leastIn 45 = .ok (.iload_n 2, 1) := by decide +kernel
theorem dX11_leastIn_46 : decode cX11_leastIn 46 = .ok (.istore_n 1, 1) := by decide +kernel
theorem dX11_leastIn_47 : decode cX11_leastIn 47 = .ok (.iinc 2 1, 3) := by decide +kernel
theorem dX11_leastIn_50 : decode cX11_leastIn 50 = .ok (.goto (-45), 3) := by decide +kernel
theorem dX11_leastIn_53 : decode cX11_leastIn 53 = .ok (.iload_n 1, 1) := by decide +kernel
theorem dX11_leastIn_54 : decode cX11_leastIn 54 = .ok (.ireturn, 1) := by decide +kernel
set_option maxRecDepth 20000 in
theorem ggX11_forgets_X11_of : GoodIn wsX11_forgets wsX11_of := goodIn_r _ [4] (by decide +kernel) (by decide +kernel)
set_option maxRecDepth 20000 in
theorem gX11_forgets_X11_of : GoodIn wsX11_forgets (va_wsS RX11 48 yX11_of wsX11_of) := goodIn_app (goodIn_of _ (by decide +kernel)) ggX11_forgets_X11_of
set_option maxRecDepth 20000 in
theorem ggX11_forgets_X11_isHere : GoodIn wsX11_forgets wsX11_isHere := goodIn_r _ [7, 1, 2, 3, 4] (by decide +kernel) (by decide +kernel)
set_option maxRecDepth 20000 in
theorem gX11_forgets_X11_isHere : GoodIn wsX11_forgets (va_wsS RX11 52 yX11_isHere wsX11_isHere) := goodIn_app (goodIn_of _ (by decide +kernel)) ggX11_forgets_X11_isHere
set_option maxRecDepth 20000 in
theorem ggX11_forgets_X11_by : GoodIn wsX11_forgets wsX11_by := goodIn_r _ [10] (by decide +kernel) (by decide +kernel)
set_option maxRecDepth 20000 in
theorem gX11_forgets_X11_by : GoodIn wsX11_forgets (va_wsS RX11 56 yX11_by wsX11_by) := goodIn_app (goodIn_of _ (by decide +kernel)) ggX11_forgets_X11_by
theorem dX11_forgets_0 : decode cX11_forgets 0 = .ok (.aload_n 0, 1) := by decide +kernel
theorem dX11_forgets_1 : decode cX11_forgets 1 = .ok (.iload_n 1, 1) := by decide +kernel
theorem dX11_forgets_2 : decode cX11_forgets 2 = .ok (.iconst 2, 1) := by decide +kernel
theorem dX11_forgets_3 : decode cX11_forgets 3 = .ok (.invokestatic 48, 3) := by decide +kernel
theorem dX11_forgets_6 : decode cX11_forgets 6 = .ok (.iconst 0, 1) := by decide +kernel
theorem dX11_forgets_7 : decode cX11_forgets 7 = .ok (.iastore, 1) := by decide +kernel
theorem dX11_forgets_8 : decode cX11_forgets 8 = .ok (.aload_n 0, 1) := by decide +kernel
theorem dX11_forgets_9 : decode cX11_forgets 9 = .ok (.iload_n 1, 1) := by decide +kernel
theorem dX11_forgets_10 : decode cX11_forgets 10 = .ok (.iconst 3, 1) := by decide +kernel
theorem dX11_forgets_11 : decode cX11_forgets 11 = .ok (.invokestatic 48, 3) := by decide +kernel
theorem dX11_forgets_14 : decode cX11_forgets 14 = .ok (.iconst 0, 1) := by decide +kernel
theorem dX11_forgets_15 : decode cX11_forgets 15 = .ok (.iastore, 1) := by decide +kernel
theorem dX11_forgets_16 : decode cX11_forgets 16 = .ok (.iconst 0, 1) := by decide +kernel
theorem dX11_forgets_17 : decode cX11_forgets 17 = .ok (.istore_n 2, 1) := by decide +kernel
theorem dX11_forgets_18 : decode cX11_forgets 18 = .ok (.iload_n 2, 1) := by decide +kernel
theorem dX11_forgets_19 : decode cX11_forgets 19 = .ok (.aload_n 0, 1) := by decide +kernel
theorem dX11_forgets_20 : decode cX11_forgets 20 = .ok (.iconst 0, 1) := by decide +kernel
theorem dX11_forgets_21 : decode cX11_forgets 21 = .ok (.iaload, 1) := by decide +kernel
theorem dX11_forgets_22 : decode cX11_forgets 22 = .ok (.if_icmp .ge 25, 3) := by decide +kernel
theorem dX11_forgets_25 : decode cX11_forgets 25 = .ok (.aload_n 0, 1) := by decide +kernel
theorem dX11_forgets_26 : decode cX11_forgets 26 = .ok (.iload_n 2, 1) := by decide +kernel
theorem dX11_forgets_27 : decode cX11_forgets 27 = .ok (.invokestatic 52, 3) := by decide +kernel
theorem dX11_forgets_30 : decode cX11_forgets 30 = .ok (.ifCond .eq 11, 3) := by decide +kernel
theorem dX11_forgets_33 : decode cX11_forgets 33 = .ok (.aload_n 0, 1) := by decide +kernel
theorem dX11_forgets_34 : decode cX11_forgets 34 = .ok (.iload_n 2, 1) := by decide +kernel
theorem dX11_forgets_35 : decode cX11_forgets 35 = .ok (.iload_n 1, 1) := by decide +kernel
theorem dX11_forgets_36 : decode cX11_forgets 36 = .ok (.invokestatic 56, 3) := by decide +kernel
theorem dX11_forgets_39 : decode cX11_forgets 39 = .ok (.iconst 0, 1) := by decide +kernel
theorem dX11_forgets_40 : decode cX11_forgets 40 = .ok (.iastore, 1) := by decide +kernel
theorem dX11_forgets_41 : decode cX11_forgets 41 = .ok (.iinc 2 1, 3) := by decide +kernel
theorem dX11_forgets_44 : decode cX11_forgets 44 = .ok (.goto (-26), 3) := by decide +kernel
theorem dX11_forgets_47 : decode cX11_forgets 47 = .ok (.return_, 1) := by decide +kernel
set_option maxRecDepth 20000 in
theorem ggX11_week_X11_changeBy : GoodIn wsX11_week wsX11_changeBy := goodIn_r _ [4, 5, 6, 3, 7] (by decide +kernel) (by decide +kernel)
set_option maxRecDepth 20000 in
theorem gX11_week_X11_changeBy : GoodIn wsX11_week (va_wsS RX11 66 yX11_changeBy wsX11_changeBy) := goodIn_app (goodIn_of _ (by decide +kernel)) ggX11_week_X11_changeBy
set_option maxRecDepth 20000 in
theorem ggX11_week_X11_isHere : GoodIn wsX11_week wsX11_isHere := goodIn_r _ [10, 5, 6, 3, 7] (by decide +kernel) (by decide +kernel)
set_option maxRecDepth 20000 in
theorem gX11_week_X11_isHere : GoodIn wsX11_week (va_wsS RX11 52 yX11_isHere wsX11_isHere) := goodIn_app (goodIn_of _ (by decide +kernel)) ggX11_week_X11_isHere
set_option maxRecDepth 20000 in
theorem ggX11_week_X11_by : GoodIn wsX11_week wsX11_by := goodIn_r _ [13] (by decide +kernel) (by decide +kernel)
set_option maxRecDepth 20000 in
theorem gX11_week_X11_by : GoodIn wsX11_week (va_wsS RX11 56 yX11_by wsX11_by) := goodIn_app (goodIn_of _ (by decide +kernel)) ggX11_week_X11_by
set_option maxRecDepth 20000 in
theorem ggX11_week_X11_held : GoodIn wsX11_week wsX11_held := goodIn_r _ [16] (by decide +kernel) (by decide +kernel)
set_option maxRecDepth 20000 in
theorem gX11_week_X11_held : GoodIn wsX11_week (va_wsS RX11 69 yX11_held wsX11_held) := goodIn_app (goodIn_of _ (by decide +kernel)) ggX11_week_X11_held
set_option maxRecDepth 20000 in
theorem ggX11_week_X11_leastIn : GoodIn wsX11_week wsX11_leastIn := goodIn_r _ [19, 8, 9, 3, 10, 5, 6, 7, 20, 21, 22, 23, 24, 25, 11, 12, 13] (by decide +kernel) (by decide +kernel)
set_option maxRecDepth 20000 in
theorem gX11_week_X11_leastIn : GoodIn wsX11_week (va_wsS RX11 72 yX11_leastIn wsX11_leastIn) := goodIn_app (goodIn_of _ (by decide +kernel)) ggX11_week_X11_leastIn
set_option maxRecDepth 20000 in
theorem ggX11_week_X11_forgets : GoodIn wsX11_week wsX11_forgets := goodIn_r _ [28, 5, 6, 3, 7, 8, 9, 10, 11, 12, 13] (by decide +kernel) (by decide +kernel)
set_option maxRecDepth 20000 in
theorem gX11_week_X11_forgets : GoodIn wsX11_week (va_wsS RX11 76 yX11_forgets wsX11_forgets) := goodIn_app (goodIn_of _ (by decide +kernel)) ggX11_week_X11_forgets
theorem dX11_week_0 : decode cX11_week 0 = .ok (.aload_n 0, 1) := by decide +kernel
theorem dX11_week_1 : decode cX11_week 1 = .ok (.iconst 1, 1) := by decide +kernel
theorem dX11_week_2 : decode cX11_week 2 = .ok (.dup2, 1) := by decide +kernel
theorem dX11_week_3 : decode cX11_week 3 = .ok (.iaload, 1) := by decide +kernel
theorem dX11_week_4 : decode cX11_week 4 = .ok (.iconst 1, 1) := by decide +kernel
theorem dX11_week_5 : decode cX11_week 5 = .ok (.iadd, 1) := by decide +kernel
theorem dX11_week_6 : decode cX11_week 6 = .ok (.iastore, 1) := by decide +kernel
theorem dX11_week_7 : decode cX11_week 7 = .ok (.iconst 0, 1) := by decide +kernel
theorem dX11_week_8 : decode cX11_week 8 = .ok (.istore_n 1, 1) := by decide +kernel
theorem dX11_week_9 : decode cX11_week 9 = .ok (.iload_n 1, 1) := by decide +kernel
theorem dX11_week_10 : decode cX11_week 10 = .ok (.aload_n 0, 1) := by decide +kernel
theorem dX11_week_11 : decode cX11_week 11 = .ok (.iconst 0, 1) := by decide +kernel
theorem dX11_week_12 : decode cX11_week 12 = .ok (.iaload, 1) := by decide +kernel
theorem dX11_week_13 : decode cX11_week 13 = .ok (.if_icmp .ge 70, 3) := by decide +kernel
theorem dX11_week_16 : decode cX11_week 16 = .ok (.aload_n 0, 1) := by decide +kernel
theorem dX11_week_17 : decode cX11_week 17 = .ok (.iload_n 1, 1) := by decide +kernel
theorem dX11_week_18 : decode cX11_week 18 = .ok (.invokestatic 66, 3) := by decide +kernel
theorem dX11_week_21 : decode cX11_week 21 = .ok (.istore_n 2, 1) := by decide +kernel
theorem dX11_week_22 : decode cX11_week 22 = .ok (.iconst 0, 1) := by decide +kernel
theorem dX11_week_23 : decode cX11_week 23 = .ok (.istore_n 3, 1) := by decide +kernel
theorem dX11_week_24 : decode cX11_week 24 = .ok (.iload_n 3, 1) := by decide +kernel
theorem dX11_week_25 : decode cX11_week 25 = .ok (.aload_n 0, 1) := by decide +kernel
theorem dX11_week_26 : decode cX11_week 26 = .ok (.iconst 0, 1) := by decide +kernel
theorem dX11_week_27 : decode cX11_week 27 = .ok (.iaload, 1) := by decide +kernel
theorem dX11_week_28 : decode cX11_week 28 = .ok (.if_icmp .ge 49, 3) := by decide +kernel
theorem dX11_week_31 : decode cX11_week 31 = .ok (.iload_n 3, 1) := by decide +kernel
theorem dX11_week_32 : decode cX11_week 32 = .ok (.iload_n 1, 1) := by decide +kernel
theorem dX11_week_33 : decode cX11_week 33 = .ok (.if_icmp .eq 38, 3) := by decide +kernel
theorem dX11_week_36 : decode cX11_week 36 = .ok (.aload_n 0, 1) := by decide +kernel
theorem dX11_week_37 : decode cX11_week 37 = .ok (.iload_n 1, 1) := by decide +kernel
theorem dX11_week_38 : decode cX11_week 38 = .ok (.invokestatic 52, 3) := by decide +kernel
theorem dX11_week_41 : decode cX11_week 41 = .ok (.ifCond .eq 30, 3) := by decide +kernel
theorem dX11_week_44 : decode cX11_week 44 = .ok (.aload_n 0, 1) := by decide +kernel
theorem dX11_week_45 : decode cX11_week 45 = .ok (.iload_n 3, 1) := by decide +kernel
theorem dX11_week_46 : decode cX11_week 46 = .ok (.invokestatic 52, 3) := by decide +kernel
theorem dX11_week_49 : decode cX11_week 49 = .ok (.ifCond .eq 22, 3) := by decide +kernel
theorem dX11_week_52 : decode cX11_week 52 = .ok (.aload_n 0, 1) := by decide +kernel
theorem dX11_week_53 : decode cX11_week 53 = .ok (.iload_n 3, 1) := by decide +kernel
theorem dX11_week_54 : decode cX11_week 54 = .ok (.iload_n 1, 1) := by decide +kernel
theorem dX11_week_55 : decode cX11_week 55 = .ok (.invokestatic 56, 3) := by decide +kernel
theorem dX11_week_58 : decode cX11_week 58 = .ok (.aload_n 0, 1) := by decide +kernel
theorem dX11_week_59 : decode cX11_week 59 = .ok (.iload_n 3, 1) := by decide +kernel
theorem dX11_week_60 : decode cX11_week 60 = .ok (.iload_n 1, 1) := by decide +kernel
theorem dX11_week_61 : decode cX11_week 61 = .ok (.invokestatic 56, 3) := by decide +kernel
theorem dX11_week_64 : decode cX11_week 64 = .ok (.iaload, 1) := by decide +kernel
theorem dX11_week_65 : decode cX11_week 65 = .ok (.iload_n 2, 1) := by decide +kernel
theorem dX11_week_66 : decode cX11_week 66 = .ok (.iadd, 1) := by decide +kernel
theorem dX11_week_67 : decode cX11_week 67 = .ok (.invokestatic 69, 3) := by decide +kernel
theorem dX11_week_70 : decode cX11_week 70 = .ok (.iastore, 1) := by decide +kernel
theorem dX11_week_71 : decode cX11_week 71 = .ok (.iinc 3 1, 3) := by decide +kernel
theorem dX11_week_74 : decode cX11_week 74 = .ok (.goto (-50), 3) := by decide +kernel
theorem dX11_week_77 : decode cX11_week 77 = .ok (.iinc 1 1, 3) := by decide +kernel
theorem dX11_week_80 : decode cX11_week 80 = .ok (.goto (-71), 3) := by decide +kernel
theorem dX11_week_83 : decode cX11_week 83 = .ok (.iconst 0, 1) := by decide +kernel
theorem dX11_week_84 : decode cX11_week 84 = .ok (.istore_n 1, 1) := by decide +kernel
theorem dX11_week_85 : decode cX11_week 85 = .ok (.iload_n 1, 1) := by decide +kernel
theorem dX11_week_86 : decode cX11_week 86 = .ok (.aload_n 0, 1) := by decide +kernel
theorem dX11_week_87 : decode cX11_week 87 = .ok (.iconst 2, 1) := by decide +kernel
theorem dX11_week_88 : decode cX11_week 88 = .ok (.iaload, 1) := by decide +kernel
theorem dX11_week_89 : decode cX11_week 89 = .ok (.if_icmp .ge 32, 3) := by decide +kernel
theorem dX11_week_92 : decode cX11_week 92 = .ok (.aload_n 0, 1) := by decide +kernel
theorem dX11_week_93 : decode cX11_week 93 = .ok (.iconst 1, 1) := by decide +kernel
theorem dX11_week_94 : decode cX11_week 94 = .ok (.iaload, 1) := by decide +kernel
theorem dX11_week_95 : decode cX11_week 95 = .ok (.bipush 10, 2) := by decide +kernel
theorem dX11_week_97 : decode cX11_week 97 = .ok (.irem, 1) := by decide +kernel
theorem dX11_week_98 : decode cX11_week 98 = .ok (.ifCond .ne 23, 3) := by decide +kernel
theorem dX11_week_101 : decode cX11_week 101 = .ok (.aload_n 0, 1) := by decide +kernel
theorem dX11_week_102 : decode cX11_week 102 = .ok (.invokestatic 72, 3) := by decide +kernel
theorem dX11_week_105 : decode cX11_week 105 = .ok (.istore_n 2, 1) := by decide +kernel
theorem dX11_week_106 : decode cX11_week 106 = .ok (.iload_n 2, 1) := by decide +kernel
theorem dX11_week_107 : decode cX11_week 107 = .ok (.ifCond .lt 8, 3) := by decide +kernel
theorem dX11_week_110 : decode cX11_week 110 = .ok (.aload_n 0, 1) := by decide +kernel
theorem dX11_week_111 : decode cX11_week 111 = .ok (.iload_n 2, 1) := by decide +kernel
theorem dX11_week_112 : decode cX11_week 112 = .ok (.invokestatic 76, 3) := by decide +kernel
theorem dX11_week_115 : decode cX11_week 115 = .ok (.iinc 1 1, 3) := by decide +kernel
theorem dX11_week_118 : decode cX11_week 118 = .ok (.goto (-33), 3) := by decide +kernel
theorem dX11_week_121 : decode cX11_week 121 = .ok (.return_, 1) := by decide +kernel
set_option maxRecDepth 20000 in
theorem ggX11_weeksOn_X11_week : GoodIn wsX11_weeksOn wsX11_week := goodIn_r _ [4, 5, 6, 3, 7, 8, 9, 10, 11, 12, 13, 14, 15, 16, 17, 18, 19, 20, 21, 22, 23, 24, 25, 26, 27, 28, 29, 30, 31] (by decide +kernel) (by decide +kernel)
set_option maxRecDepth 20000 in
theorem gX11_weeksOn_X11_week : GoodIn wsX11_weeksOn (va_wsS RX11 80 yX11_week wsX11_week) := goodIn_app (goodIn_of _ (by decide +kernel)) ggX11_weeksOn_X11_week
theorem dX11_weeksOn_0 : decode cX11_weeksOn 0 = .ok (.iconst 0, 1) := by decide +kernel
theorem dX11_weeksOn_1 : decode cX11_weeksOn 1 = .ok (.istore_n 2, 1) := by decide +kernel
theorem dX11_weeksOn_2 : decode cX11_weeksOn 2 = .ok (.iload_n 2, 1) := by decide +kernel
theorem dX11_weeksOn_3 : decode cX11_weeksOn 3 = .ok (.iload_n 1, 1) := by decide +kernel
theorem dX11_weeksOn_4 : decode cX11_weeksOn 4 = .ok (.if_icmp .ge 13, 3) := by decide +kernel
theorem dX11_weeksOn_7 : decode cX11_weeksOn 7 = .ok (.aload_n 0, 1) := by decide +kernel
theorem dX11_weeksOn_8 : decode cX11_weeksOn 8 = .ok (.invokestatic 80, 3) := by decide +kernel
theorem dX11_weeksOn_11 : decode cX11_weeksOn 11 = .ok (.iinc 2 1, 3) := by decide +kernel
theorem dX11_weeksOn_14 : decode cX11_weeksOn 14 = .ok (.goto (-12), 3) := by decide +kernel
theorem dX11_weeksOn_17 : decode cX11_weeksOn 17 = .ok (.return_, 1) := by decide +kernel
set_option maxRecDepth 20000 in
theorem ggX11_hereIn_X11_of : GoodIn wsX11_hereIn wsX11_of := goodIn_r _ [4] (by decide +kernel) (by decide +kernel)
set_option maxRecDepth 20000 in
theorem gX11_hereIn_X11_of : GoodIn wsX11_hereIn (va_wsS RX11 48 yX11_of wsX11_of) := goodIn_app (goodIn_of _ (by decide +kernel)) ggX11_hereIn_X11_of
theorem dX11_hereIn_0 : decode cX11_hereIn 0 = .ok (.iconst 0, 1) := by decide +kernel
theorem dX11_hereIn_1 : decode cX11_hereIn 1 = .ok (.istore_n 1, 1) := by decide +kernel
theorem dX11_hereIn_2 : decode cX11_hereIn 2 = .ok (.iconst 0, 1) := by decide +kernel
theorem dX11_hereIn_3 : decode cX11_hereIn 3 = .ok (.istore_n 2, 1) := by decide +kernel
theorem dX11_hereIn_4 : decode cX11_hereIn 4 = .ok (.iload_n 2, 1) := by decide +kernel
theorem dX11_hereIn_5 : decode cX11_hereIn 5 = .ok (.aload_n 0, 1) := by decide +kernel
theorem dX11_hereIn_6 : decode cX11_hereIn 6 = .ok (.iconst 0, 1) := by decide +kernel
theorem dX11_hereIn_7 : decode cX11_hereIn 7 = .ok (.iaload, 1) := by decide +kernel
theorem dX11_hereIn_8 : decode cX11_hereIn 8 = .ok (.if_icmp .ge 21, 3) := by decide +kernel
theorem dX11_hereIn_11 : decode cX11_hereIn 11 = .ok (.iload_n 1, 1) := by decide +kernel
theorem dX11_hereIn_12 : decode cX11_hereIn 12 = .ok (.aload_n 0, 1) := by decide +kernel
theorem dX11_hereIn_13 : decode cX11_hereIn 13 = .ok (.iload_n 2, 1) := by decide +kernel
theorem dX11_hereIn_14 : decode cX11_hereIn 14 = .ok (.iconst 2, 1) := by decide +kernel
theorem dX11_hereIn_15 : decode cX11_hereIn 15 = .ok (.invokestatic 48, 3) := by decide +kernel
theorem dX11_hereIn_18 : decode cX11_hereIn 18 = .ok (.iaload, 1) := by decide +kernel
theorem dX11_hereIn_19 : decode cX11_hereIn 19 = .ok (.iload_n 2, 1) := by decide +kernel
theorem dX11_hereIn_20 : decode cX11_hereIn 20 = .ok (.ishl, 1) := by decide +kernel
theorem dX11_hereIn_21 : decode cX11_hereIn 21 = .ok (.ior, 1) := by decide +kernel
theorem dX11_hereIn_22 : decode cX11_hereIn 22 = .ok (.istore_n 1, 1) := by decide +kernel
theorem dX11_hereIn_23 : decode cX11_hereIn 23 = .ok (.iinc 2 1, 3) := by decide +kernel
theorem dX11_hereIn_26 : decode cX11_hereIn 26 = .ok (.goto (-22), 3) := by decide +kernel
theorem dX11_hereIn_29 : decode cX11_hereIn 29 = .ok (.iload_n 1, 1) := by decide +kernel
theorem dX11_hereIn_30 : decode cX11_hereIn 30 = .ok (.ireturn, 1) := by decide +kernel
set_option maxRecDepth 20000 in
theorem ggX11_speaksIn_X11_by : GoodIn wsX11_speaksIn wsX11_by := goodIn_r _ [4] (by decide +kernel) (by decide +kernel)
set_option maxRecDepth 20000 in
theorem gX11_speaksIn_X11_by : GoodIn wsX11_speaksIn (va_wsS RX11 56 yX11_by wsX11_by) := goodIn_app (goodIn_of _ (by decide +kernel)) ggX11_speaksIn_X11_by
set_option maxRecDepth 20000 in
theorem ggX11_speaksIn_X11_held : GoodIn wsX11_speaksIn wsX11_held := goodIn_r _ [7] (by decide +kernel) (by decide +kernel)
set_option maxRecDepth 20000 in
theorem gX11_speaksIn_X11_held : GoodIn wsX11_speaksIn (va_wsS RX11 69 yX11_held wsX11_held) := goodIn_app (goodIn_of _ (by decide +kernel)) ggX11_speaksIn_X11_held
theorem dX11_speaksIn_0 : decode cX11_speaksIn 0 = .ok (.aload_n 0, 1) := by decide +kernel
theorem dX11_speaksIn_1 : decode cX11_speaksIn 1 = .ok (.iload_n 1, 1) := by decide +kernel
theorem dX11_speaksIn_2 : decode cX11_speaksIn 2 = .ok (.iload_n 2, 1) := by decide +kernel
theorem dX11_speaksIn_3 : decode cX11_speaksIn 3 = .ok (.invokestatic 56, 3) := by decide +kernel
theorem dX11_speaksIn_6 : decode cX11_speaksIn 6 = .ok (.aload_n 0, 1) := by decide +kernel
theorem dX11_speaksIn_7 : decode cX11_speaksIn 7 = .ok (.iload_n 1, 1) := by decide +kernel
theorem dX11_speaksIn_8 : decode cX11_speaksIn 8 = .ok (.iload_n 2, 1) := by decide +kernel
theorem dX11_speaksIn_9 : decode cX11_speaksIn 9 = .ok (.invokestatic 56, 3) := by decide +kernel
theorem dX11_speaksIn_12 : decode cX11_speaksIn 12 = .ok (.iaload, 1) := by decide +kernel
theorem dX11_speaksIn_13 : decode cX11_speaksIn 13 = .ok (.bipush 10, 2) := by decide +kernel
theorem dX11_speaksIn_15 : decode cX11_speaksIn 15 = .ok (.iadd, 1) := by decide +kernel
theorem dX11_speaksIn_16 : decode cX11_speaksIn 16 = .ok (.invokestatic 69, 3) := by decide +kernel
theorem dX11_speaksIn_19 : decode cX11_speaksIn 19 = .ok (.iastore, 1) := by decide +kernel
theorem dX11_speaksIn_20 : decode cX11_speaksIn 20 = .ok (.aload_n 0, 1) := by decide +kernel
theorem dX11_speaksIn_21 : decode cX11_speaksIn 21 = .ok (.iload_n 2, 1) := by decide +kernel
theorem dX11_speaksIn_22 : decode cX11_speaksIn 22 = .ok (.iload_n 1, 1) := by decide +kernel
theorem dX11_speaksIn_23 : decode cX11_speaksIn 23 = .ok (.invokestatic 56, 3) := by decide +kernel
theorem dX11_speaksIn_26 : decode cX11_speaksIn 26 = .ok (.aload_n 0, 1) := by decide +kernel
theorem dX11_speaksIn_27 : decode cX11_speaksIn 27 = .ok (.iload_n 2, 1) := by decide +kernel
theorem dX11_speaksIn_28 : decode cX11_speaksIn 28 = .ok (.iload_n 1, 1) := by decide +kernel
theorem dX11_speaksIn_29 : decode cX11_speaksIn 29 = .ok (.invokestatic 56, 3) := by decide +kernel
theorem dX11_speaksIn_32 : decode cX11_speaksIn 32 = .ok (.iaload, 1) := by decide +kernel
theorem dX11_speaksIn_33 : decode cX11_speaksIn 33 = .ok (.bipush 10, 2) := by decide +kernel
theorem dX11_speaksIn_35 : decode cX11_speaksIn 35 = .ok (.iadd, 1) := by decide +kernel
theorem dX11_speaksIn_36 : decode cX11_speaksIn 36 = .ok (.invokestatic 69, 3) := by decide +kernel
theorem dX11_speaksIn_39 : decode cX11_speaksIn 39 = .ok (.iastore, 1) := by decide +kernel
theorem dX11_speaksIn_40 : decode cX11_speaksIn 40 = .ok (.return_, 1) := by decide +kernel
set_option maxRecDepth 20000 in
theorem ggX11_comesBack_X11_isHere : GoodIn wsX11_comesBack wsX11_isHere := goodIn_r _ [4, 5, 6, 3, 7] (by decide +kernel) (by decide +kernel)
set_option maxRecDepth 20000 in
theorem gX11_comesBack_X11_isHere : GoodIn wsX11_comesBack (va_wsS RX11 52 yX11_isHere wsX11_isHere) := goodIn_app (goodIn_of _ (by decide +kernel)) ggX11_comesBack_X11_isHere
set_option maxRecDepth 20000 in
theorem ggX11_comesBack_X11_by : GoodIn wsX11_comesBack wsX11_by := goodIn_r _ [10] (by decide +kernel) (by decide +kernel)
set_option maxRecDepth 20000 in
theorem gX11_comesBack_X11_by : GoodIn wsX11_comesBack (va_wsS RX11 56 yX11_by wsX11_by) := goodIn_app (goodIn_of _ (by decide +kernel)) ggX11_comesBack_X11_by
set_option maxRecDepth 20000 in
theorem ggX11_comesBack_X11_of : GoodIn wsX11_comesBack wsX11_of := goodIn_r _ [7] (by decide +kernel) (by decide +kernel)
set_option maxRecDepth 20000 in
theorem gX11_comesBack_X11_of : GoodIn wsX11_comesBack (va_wsS RX11 48 yX11_of wsX11_of) := goodIn_app (goodIn_of _ (by decide +kernel)) ggX11_comesBack_X11_of
theorem dX11_comesBack_0 : decode cX11_comesBack 0 = .ok (.iconst 0, 1) := by decide +kernel
theorem dX11_comesBack_1 : decode cX11_comesBack 1 = .ok (.istore_n 2, 1) := by decide +kernel
theorem dX11_comesBack_2 : decode cX11_comesBack 2 = .ok (.iload_n 2, 1) := by decide +kernel
theorem dX11_comesBack_3 : decode cX11_comesBack 3 = .ok (.aload_n 0, 1) := by decide +kernel
theorem dX11_comesBack_4 : decode cX11_comesBack 4 = .ok (.iconst 0, 1) := by decide +kernel
theorem dX11_comesBack_5 : decode cX11_comesBack 5 = .ok (.iaload, 1) := by decide +kernel
theorem dX11_comesBack_6 : decode cX11_comesBack 6 = .ok (.if_icmp .ge 26, 3) := by decide +kernel
theorem dX11_comesBack_9 : decode cX11_comesBack 9 = .ok (.aload_n 0, 1) := by decide +kernel
theorem dX11_comesBack_10 : decode cX11_comesBack 10 = .ok (.iload_n 2, 1) := by decide +kernel
theorem dX11_comesBack_11 : decode cX11_comesBack 11 = .ok (.invokestatic 52, 3) := by decide +kernel
theorem dX11_comesBack_14 : decode cX11_comesBack 14 = .ok (.ifCond .eq 12, 3) := by decide +kernel
theorem dX11_comesBack_17 : decode cX11_comesBack 17 = .ok (.aload_n 0, 1) := by decide +kernel
theorem dX11_comesBack_18 : decode cX11_comesBack 18 = .ok (.iload_n 2, 1) := by decide +kernel
theorem dX11_comesBack_19 : decode cX11_comesBack 19 = .ok (.iload_n 1, 1) := by decide +kernel
theorem dX11_comesBack_20 : decode cX11_comesBack 20 = .ok (.invokestatic 56, 3) := by decide +kernel
theorem dX11_comesBack_23 : decode cX11_comesBack 23 = .ok (.bipush 20, 2) := by decide +kernel
theorem dX11_comesBack_25 : decode cX11_comesBack 25 = .ok (.iastore, 1) := by decide +kernel
theorem dX11_comesBack_26 : decode cX11_comesBack 26 = .ok (.iinc 2 1, 3) := by decide +kernel
theorem dX11_comesBack_29 : decode cX11_comesBack 29 = .ok (.goto (-27), 3) := by decide +kernel
theorem dX11_comesBack_32 : decode cX11_comesBack 32 = .ok (.aload_n 0, 1) := by decide +kernel
theorem dX11_comesBack_33 : decode cX11_comesBack 33 = .ok (.iload_n 1, 1) := by decide +kernel
theorem dX11_comesBack_34 : decode cX11_comesBack 34 = .ok (.iconst 2, 1) := by decide +kernel
theorem dX11_comesBack_35 : decode cX11_comesBack 35 = .ok (.invokestatic 48, 3) := by decide +kernel
theorem dX11_comesBack_38 : decode cX11_comesBack 38 = .ok (.iconst 1, 1) := by decide +kernel
theorem dX11_comesBack_39 : decode cX11_comesBack 39 = .ok (.iastore, 1) := by decide +kernel
theorem dX11_comesBack_40 : decode cX11_comesBack 40 = .ok (.return_, 1) := by decide +kernel
set_option maxRecDepth 20000 in
theorem ggX11_letter_X11_no : GoodIn wsX11_letter wsX11_no := goodIn_r _ [7, 8, 9, 10, 11, 12, 13, 14, 15, 16, 17, 18, 19, 20, 21] (by decide +kernel) (by decide +kernel)
set_option maxRecDepth 20000 in
theorem gX11_letter_X11_no : GoodIn wsX11_letter (wsV RX11 36 RX11 yX11_no wsX11_no) := goodIn_app (goodIn_of _ (by decide +kernel)) ggX11_letter_X11_no
theorem dX11_letter_0 : decode cX11_letter 0 = .ok (.iload_n 1, 1) := by decide +kernel
theorem dX11_letter_1 : decode cX11_letter 1 = .ok (.ifCond .ge 10, 3) := by decide +kernel
theorem dX11_letter_4 : decode cX11_letter 4 = .ok (.aload_n 0, 1) := by decide +kernel
theorem dX11_letter_5 : decode cX11_letter 5 = .ok (.bipush (-4), 2) := by decide +kernel
theorem dX11_letter_7 : decode cX11_letter 7 = .ok (.invokevirtual 36, 3) := by decide +kernel
theorem dX11_letter_10 : decode cX11_letter 10 = .ok (.ireturn, 1) := by decide +kernel
theorem dX11_letter_11 : decode cX11_letter 11 = .ok (.iload_n 1, 1) := by decide +kernel
theorem dX11_letter_12 : decode cX11_letter 12 = .ok (.sipush 255, 3) := by decide +kernel
theorem dX11_letter_15 : decode cX11_letter 15 = .ok (.if_icmp .gt 12, 3) := by decide +kernel
theorem dX11_letter_18 : decode cX11_letter 18 = .ok (.aload_n 0, 1) := by decide +kernel
theorem dX11_letter_19 : decode cX11_letter 19 = .ok (.getfield 84, 3) := by decide +kernel
theorem dX11_letter_22 : decode cX11_letter 22 = .ok (.bipush 96, 2) := by decide +kernel
theorem dX11_letter_24 : decode cX11_letter 24 = .ok (.if_icmp .ne 10, 3) := by decide +kernel
theorem dX11_letter_27 : decode cX11_letter 27 = .ok (.aload_n 0, 1) := by decide +kernel
theorem dX11_letter_28 : decode cX11_letter 28 = .ok (.bipush (-6), 2) := by decide +kernel
theorem dX11_letter_30 : decode cX11_letter 30 = .ok (.invokevirtual 36, 3) := by decide +kernel
theorem dX11_letter_33 : decode cX11_letter 33 = .ok (.ireturn, 1) := by decide +kernel
theorem dX11_letter_34 : decode cX11_letter 34 = .ok (.aload_n 0, 1) := by decide +kernel
theorem dX11_letter_35 : decode cX11_letter 35 = .ok (.getfield 22, 3) := by decide +kernel
theorem dX11_letter_38 : decode cX11_letter 38 = .ok (.aload_n 0, 1) := by decide +kernel
theorem dX11_letter_39 : decode cX11_letter 39 = .ok (.getfield 84, 3) := by decide +kernel
theorem dX11_letter_42 : decode cX11_letter 42 = .ok (.iload_n 1, 1) := by decide +kernel
theorem dX11_letter_43 : decode cX11_letter 43 = .ok (.iastore, 1) := by decide +kernel
theorem dX11_letter_44 : decode cX11_letter 44 = .ok (.aload_n 0, 1) := by decide +kernel
theorem dX11_letter_45 : decode cX11_letter 45 = .ok (.dup, 1) := by decide +kernel
theorem dX11_letter_46 : decode cX11_letter 46 = .ok (.getfield 84, 3) := by decide +kernel
theorem dX11_letter_49 : decode cX11_letter 49 = .ok (.iconst 1, 1) := by decide +kernel
theorem dX11_letter_50 : decode cX11_letter 50 = .ok (.iadd, 1) := by decide +kernel
theorem dX11_letter_51 : decode cX11_letter 51 = .ok (.putfield 84, 3) := by decide +kernel
theorem dX11_letter_54 : decode cX11_letter 54 = .ok (.aload_n 0, 1) := by decide +kernel
theorem dX11_letter_55 : decode cX11_letter 55 = .ok (.getfield 84, 3) := by decide +kernel
theorem dX11_letter_58 : decode cX11_letter 58 = .ok (.ireturn, 1) := by decide +kernel
theorem dX11_here_0 : decode cX11_here 0 = .ok (.aload_n 0, 1) := by decide +kernel
theorem dX11_here_1 : decode cX11_here 1 = .ok (.getfield 88, 3) := by decide +kernel
theorem dX11_here_4 : decode cX11_here 4 = .ok (.aload_n 0, 1) := by decide +kernel
theorem dX11_here_5 : decode cX11_here 5 = .ok (.getfield 84, 3) := by decide +kernel
theorem dX11_here_8 : decode cX11_here 8 = .ok (.if_icmp .ge 15, 3) := by decide +kernel
theorem dX11_here_11 : decode cX11_here 11 = .ok (.aload_n 0, 1) := by decide +kernel
theorem dX11_here_12 : decode cX11_here 12 = .ok (.getfield 22, 3) := by decide +kernel
theorem dX11_here_15 : decode cX11_here 15 = .ok (.aload_n 0, 1) := by decide +kernel
theorem dX11_here_16 : decode cX11_here 16 = .ok (.getfield 88, 3) := by decide +kernel
theorem dX11_here_19 : decode cX11_here 19 = .ok (.iaload, 1) := by decide +kernel
theorem dX11_here_20 : decode cX11_here 20 = .ok (.goto 4, 3) := by decide +kernel
theorem dX11_here_23 : decode cX11_here 23 = .ok (.iconst (-1), 1) := by decide +kernel
theorem dX11_here_24 : decode cX11_here 24 = .ok (.ireturn, 1) := by decide +kernel
set_option maxRecDepth 20000 in
theorem ggX11_readsNumber_X11_here : GoodIn wsX11_readsNumber wsX11_here := goodIn_r _ [7, 2, 8, 9, 13, 14, 15, 16, 17, 18, 19, 20, 21, 22, 23, 24, 25] (by decide +kernel) (by decide +kernel)
set_option maxRecDepth 20000 in
theorem gX11_readsNumber_X11_here : GoodIn wsX11_readsNumber (wsV RX11 91 RX11 yX11_here wsX11_here) := goodIn_app (goodIn_of _ (by decide +kernel)) ggX11_readsNumber_X11_here
set_option maxRecDepth 20000 in
theorem ggX11_readsNumber_X11_isIn : GoodIn wsX11_readsNumber wsX11_isIn := goodIn_r _ [12] (by decide +kernel) (by decide +kernel)
set_option maxRecDepth 20000 in
theorem gX11_readsNumber_X11_isIn : GoodIn wsX11_readsNumber (va_wsS RX11 40 yX11_isIn wsX11_isIn) := goodIn_app (goodIn_of _ (by decide +kernel)) ggX11_readsNumber_X11_isIn
theorem dX11_readsNumber_0 : decode cX11_readsNumber 0 = .ok (.aload_n 0, 1) := by decide +kernel
theorem dX11_readsNumber_1 : decode cX11_readsNumber 1 = .ok (.getfield 31, 3) := by decide +kernel
theorem dX11_readsNumber_4 : decode cX11_readsNumber 4 = .ok (.iload_n 1, 1) := by decide +kernel
theorem dX11_readsNumber_5 : decode cX11_readsNumber 5 = .ok (.iconst 0, 1) := by decide +kernel
theorem dX11_readsNumber_6 : decode cX11_readsNumber 6 = .ok (.iastore, 1) := by decide +kernel
theorem dX11_readsNumber_7 : decode cX11_readsNumber 7 = .ok (.iconst 0, 1) := by decide +kernel
theorem dX11_readsNumber_8 : decode cX11_readsNumber 8 = .ok (.istore_n 3, 1) := by decide +kernel
theorem dX11_readsNumber_9 : decode cX11_readsNumber 9 = .ok (.iload_n 3, 1) := by decide +kernel
theorem dX11_readsNumber_10 : decode cX11_readsNumber 10 = .ok (.iload_n 2, 1) := by decide +kernel
theorem dX11_readsNumber_11 : decode cX11_readsNumber 11 = .ok (.if_icmp .ge 58, 3) := by decide +kernel
theorem dX11_readsNumber_14 : decode cX11_readsNumber 14 = .ok (.aload_n 0, 1) := by decide +kernel
theorem dX11_readsNumber_15 : decode cX11_readsNumber 15 = .ok (.invokevirtual 91, 3) := by decide +kernel
theorem dX11_readsNumber_18 : decode cX11_readsNumber 18 = .ok (.bipush 48, 2) := by decide +kernel
theorem dX11_readsNumber_20 : decode cX11_readsNumber 20 = .ok (.bipush 57, 2) := by decide +kernel
theorem dX11_readsNumber_22 : decode cX11_readsNumber 22 = .ok (.invokestatic 40, 3) := by decide +kernel
theorem dX11_readsNumber_25 : decode cX11_readsNumber 25 = .ok (.ifCond .ne 5, 3) := by decide +kernel
theorem dX11_readsNumber_28 : decode cX11_readsNumber 28 = .ok (.iconst 0, 1) := by decide +kernel
theorem dX11_readsNumber_29 : decode cX11_readsNumber 29 = .ok (.ireturn, 1) := by decide +kernel
theorem dX11_readsNumber_30 : decode cX11_readsNumber 30 = .ok (.aload_n 0, 1) := by decide +kernel
theorem dX11_readsNumber_31 : decode cX11_readsNumber 31 = .ok (.getfield 31, 3) := by decide +kernel
theorem dX11_readsNumber_34 : decode cX11_readsNumber 34 = .ok (.iload_n 1, 1) := by decide +kernel
theorem dX11_readsNumber_35 : decode cX11_readsNumber 35 = .ok (.bipush 10, 2) := by decide +kernel
theorem dX11_readsNumber_37 : decode cX11_readsNumber 37 = .ok (.aload_n 0, 1) := by decide +kernel
theorem dX11_readsNumber_38 : decode cX11_readsNumber 38 = .ok (.getfield 31, 3) := by decide +kernel
theorem dX11_readsNumber_41 : decode cX11_readsNumber 41 = .ok (.iload_n 1, 1) := by decide +kernel
theorem dX11_readsNumber_42 : decode cX11_readsNumber 42 = .ok (.iaload, 1) := by decide +kernel
theorem dX11_readsNumber_43 : decode cX11_readsNumber 43 = .ok (.imul, 1) := by decide +kernel
theorem dX11_readsNumber_44 : decode cX11_readsNumber 44 = .ok (.aload_n 0, 1) := by decide +kernel
theorem dX11_readsNumber_45 : decode cX11_readsNumber 45 = .ok (.invokevirtual 91, 3) := by decide +kernel
theorem dX11_readsNumber_48 : decode cX11_readsNumber 48 = .ok (.iadd, 1) := by decide +kernel
theorem dX11_readsNumber_49 : decode cX11_readsNumber 49 = .ok (.bipush 48, 2) := by decide +kernel
theorem dX11_readsNumber_51 : decode cX11_readsNumber 51 = .ok (.isub, 1) := by decide +kernel
theorem dX11_readsNumber_52 : decode cX11_readsNumber 52 = .ok (.iastore, 1) := by decide +kernel
theorem dX11_readsNumber_53 : decode cX11_readsNumber 53 = .ok (.aload_n 0, 1) := by decide +kernel
theorem dX11_readsNumber_54 : decode cX11_readsNumber 54 = .ok (.dup, 1) := by decide +kernel
theorem dX11_readsNumber_55 : decode cX11_readsNumber 55 = .ok (.getfield 88, 3) := by decide +kernel
theorem dX11_readsNumber_58 : decode cX11_readsNumber 58 = .ok (.iconst 1, 1) := by decide +kernel
theorem dX11_readsNumber_59 : decode cX11_readsNumber 59 = .ok (.iadd, 1) := by decide +kernel
theorem dX11_readsNumber_60 : decode cX11_readsNumber 60 = .ok (.putfield 88, 3) := by decide +kernel
theorem dX11_readsNumber_63 : decode cX11_readsNumber 63 = .ok (.iinc 3 1, 3) := by decide +kernel
theorem dX11_readsNumber_66 : decode cX11_readsNumber 66 = .ok (.goto (-57), 3) := by decide +kernel
theorem dX11_readsNumber_69 : decode cX11_readsNumber 69 = .ok (.iconst 1, 1) := by decide +kernel
theorem dX11_readsNumber_70 : decode cX11_readsNumber 70 = .ok (.ireturn, 1) := by decide +kernel
theorem dX11_kindBy_0 : decode cX11_kindBy 0 = .ok (.iload_n 0, 1) := by decide +kernel
theorem dX11_kindBy_1 : decode cX11_kindBy 1 = .ok (.lookupswitch 71 #[(100, 61), (107, 63), (112, 59), (113, 65), (119, 69), (120, 67)], 59) := by decide +kernel
theorem dX11_kindBy_60 : decode cX11_kindBy 60 = .ok (.iconst 0, 1) := by decide +kernel
theorem dX11_kindBy_61 : decode cX11_kindBy 61 = .ok (.ireturn, 1) := by decide +kernel
theorem dX11_kindBy_62 : decode cX11_kindBy 62 = .ok (.iconst 1, 1) := by decide +kernel
theorem dX11_kindBy_63 : decode cX11_kindBy 63 = .ok (.ireturn, 1) := by decide +kernel
theorem dX11_kindBy_64 : decode cX11_kindBy 64 = .ok (.iconst 2, 1) := by decide +kernel
theorem dX11_kindBy_65 : decode cX11_kindBy 65 = .ok (.ireturn, 1) := by decide +kernel
theorem dX11_kindBy_66 : decode cX11_kindBy 66 = .ok (.iconst 3, 1) := by decide +kernel
theorem dX11_kindBy_67 : decode cX11_kindBy 67 = .ok (.ireturn, 1) := by decide +kernel
theorem dX11_kindBy_68 : decode cX11_kindBy 68 = .ok (.iconst 4, 1) := by decide +kernel
theorem dX11_kindBy_69 : decode cX11_kindBy 69 = .ok (.ireturn, 1) := by decide +kernel
theorem dX11_kindBy_70 : decode cX11_kindBy 70 = .ok (.iconst 5, 1) := by decide +kernel
theorem dX11_kindBy_71 : decode cX11_kindBy 71 = .ok (.ireturn, 1) := by decide +kernel
theorem dX11_kindBy_72 : decode cX11_kindBy 72 = .ok (.bipush (-9), 2) := by decide +kernel
theorem dX11_kindBy_74 : decode cX11_kindBy 74 = .ok (.ireturn, 1) := by decide +kernel
set_option maxRecDepth 20000 in
theorem ggX11_readsKind_X11_here : GoodIn wsX11_readsKind wsX11_here := goodIn_r _ [7, 2, 8, 9, 13, 14, 15, 16, 17, 18, 19, 20, 21, 22, 23, 24, 25] (by decide +kernel) (by decide +kernel)
set_option maxRecDepth 20000 in
theorem gX11_readsKind_X11_here : GoodIn wsX11_readsKind (wsV RX11 91 RX11 yX11_here wsX11_here) := goodIn_app (goodIn_of _ (by decide +kernel)) ggX11_readsKind_X11_here
set_option maxRecDepth 20000 in
theorem ggX11_readsKind_X11_kindBy : GoodIn wsX11_readsKind wsX11_kindBy := goodIn_r _ [12] (by decide +kernel) (by decide +kernel)
set_option maxRecDepth 20000 in
theorem gX11_readsKind_X11_kindBy : GoodIn wsX11_readsKind (va_wsS RX11 95 yX11_kindBy wsX11_kindBy) := goodIn_app (goodIn_of _ (by decide +kernel)) ggX11_readsKind_X11_kindBy
theorem dX11_readsKind_0 : decode cX11_readsKind 0 = .ok (.aload_n 0, 1) := by decide +kernel
theorem dX11_readsKind_1 : decode cX11_readsKind 1 = .ok (.getfield 31, 3) := by decide +kernel
theorem dX11_readsKind_4 : decode cX11_readsKind 4 = .ok (.iconst 0, 1) := by decide +kernel
theorem dX11_readsKind_5 : decode cX11_readsKind 5 = .ok (.aload_n 0, 1) := by decide +kernel
theorem dX11_readsKind_6 : decode cX11_readsKind 6 = .ok (.invokevirtual 91, 3) := by decide +kernel
theorem dX11_readsKind_9 : decode cX11_readsKind 9 = .ok (.invokestatic 95, 3) := by decide +kernel
theorem dX11_readsKind_12 : decode cX11_readsKind 12 = .ok (.iastore, 1) := by decide +kernel
theorem dX11_readsKind_13 : decode cX11_readsKind 13 = .ok (.aload_n 0, 1) := by decide +kernel
theorem dX11_readsKind_14 : decode cX11_readsKind 14 = .ok (.dup, 1) := by decide +kernel
theorem dX11_readsKind_15 : decode cX11_readsKind 15 = .ok (.getfield 88, 3) := by decide +kernel
theorem dX11_readsKind_18 : decode cX11_readsKind 18 = .ok (.aload_n 0, 1) := by decide +kernel
theorem dX11_readsKind_19 : decode cX11_readsKind 19 = .ok (.getfield 31, 3) := by decide +kernel
theorem dX11_readsKind_22 : decode cX11_readsKind 22 = .ok (.iconst 0, 1) := by decide +kernel
theorem dX11_readsKind_23 : decode cX11_readsKind 23 = .ok (.iaload, 1) := by decide +kernel
theorem dX11_readsKind_24 : decode cX11_readsKind 24 = .ok (.ifCond .ge 7, 3) := by decide +kernel
theorem dX11_readsKind_27 : decode cX11_readsKind 27 = .ok (.iconst 0, 1) := by decide +kernel
theorem dX11_readsKind_28 : decode cX11_readsKind 28 = .ok (.goto 4, 3) := by decide +kernel
theorem dX11_readsKind_31 : decode cX11_readsKind 31 = .ok (.iconst 1, 1) := by decide +kernel
theorem dX11_readsKind_32 : decode cX11_readsKind 32 = .ok (.iadd, 1) := by decide +kernel
theorem dX11_readsKind_33 : decode cX11_readsKind 33 = .ok (.putfield 88, 3) := by decide +kernel
theorem dX11_readsKind_36 : decode cX11_readsKind 36 = .ok (.aload_n 0, 1) := by decide +kernel
theorem dX11_readsKind_37 : decode cX11_readsKind 37 = .ok (.getfield 31, 3) := by decide +kernel
theorem dX11_readsKind_40 : decode cX11_readsKind 40 = .ok (.iconst 0, 1) := by decide +kernel
theorem dX11_readsKind_41 : decode cX11_readsKind 41 = .ok (.iaload, 1) := by decide +kernel
theorem dX11_readsKind_42 : decode cX11_readsKind 42 = .ok (.ifCond .lt 7, 3) := by decide +kernel
theorem dX11_readsKind_45 : decode cX11_readsKind 45 = .ok (.iconst 1, 1) := by decide +kernel
theorem dX11_readsKind_46 : decode cX11_readsKind 46 = .ok (.goto 4, 3) := by decide +kernel
theorem dX11_readsKind_49 : decode cX11_readsKind 49 = .ok (.iconst 0, 1) := by decide +kernel
theorem dX11_readsKind_50 : decode cX11_readsKind 50 = .ok (.ireturn, 1) := by decide +kernel
set_option maxRecDepth 20000 in
theorem ggX11_readsStatement_X11_here : GoodIn wsX11_readsStatement wsX11_here := goodIn_r _ [6, 1, 7, 8, 24, 25, 26, 27, 28, 29, 30, 31, 32, 33, 34, 35, 36] (by decide +kernel) (by decide +kernel)
set_option maxRecDepth 20000 in
theorem gX11_readsStatement_X11_here : GoodIn wsX11_readsStatement (wsV RX11 91 RX11 yX11_here wsX11_here) := goodIn_app (goodIn_of _ (by decide +kernel)) ggX11_readsStatement_X11_here
set_option maxRecDepth 20000 in
theorem ggX11_readsStatement_X11_readsKind : GoodIn wsX11_readsStatement wsX11_readsKind := goodIn_r _ [12, 13, 1, 2, 3, 4, 5, 6, 7, 8, 14, 15, 16, 24, 25, 26, 27, 28, 29, 30, 31, 32, 33, 34, 35, 36] (by decide +kernel) (by decide +kernel)
set_option maxRecDepth 20000 in
theorem gX11_readsStatement_X11_readsKind : GoodIn wsX11_readsStatement (wsV RX11 98 RX11 yX11_readsKind wsX11_readsKind) := goodIn_app (goodIn_of _ (by decide +kernel)) ggX11_readsStatement_X11_readsKind
set_option maxRecDepth 20000 in
theorem ggX11_readsStatement_X11_readsNumber : GoodIn wsX11_readsStatement wsX11_readsNumber := goodIn_r _ [20, 13, 1, 2, 3, 4, 5, 6, 7, 8, 21, 22, 23, 24, 25, 26, 27, 28, 29, 30, 31, 32, 33, 34, 35, 36] (by decide +kernel) (by decide +kernel)
set_option maxRecDepth 20000 in
theorem gX11_readsStatement_X11_readsNumber : GoodIn wsX11_readsStatement (wsV RX11 102 RX11 yX11_readsNumber wsX11_readsNumber) := goodIn_app (goodIn_of _ (by decide +kernel)) ggX11_readsStatement_X11_readsNumber
theorem dX11_readsStatement_0 : decode cX11_readsStatement 0 = .ok (.aload_n 0, 1) := by decide +kernel
theorem dX11_readsStatement_1 : decode cX11_readsStatement 1 = .ok (.invokevirtual 91, 3) := by decide +kernel
theorem dX11_readsStatement_4 : decode cX11_readsStatement 4 = .ok (.istore_n 1, 1) := by decide +kernel
theorem dX11_readsStatement_5 : decode cX11_readsStatement 5 = .ok (.aload_n 0, 1) := by decide +kernel
theorem dX11_readsStatement_6 : decode cX11_readsStatement 6 = .ok (.dup, 1) := by decide +kernel
theorem dX11_readsStatement_7 : decode cX11_readsStatement 7 = .ok (.getfield 88, 3) := by decide +kernel
theorem dX11_readsStatement_10 : decode cX11_readsStatement 10 = .ok (.iconst 1, 1) := by decide +kernel
theorem dX11_readsStatement_11 : decode cX11_readsStatement 11 = .ok (.iadd, 1) := by decide +kernel
theorem dX11_readsStatement_12 : decode cX11_readsStatement 12 = .ok (.putfield 88, 3) := by decide +kernel
theorem dX11_readsStatement_15 : decode cX11_readsStatement 15 = .ok (.iload_n 1, 1) := by decide +kernel
theorem dX11_readsStatement_16 : decode cX11_readsStatement 16 = .ok (.tableswitch 239 98 119 #[219, 239, 239, 239, 239, 239, 239, 239, 239, 239, 239, 239, 219, 165, 104, 239, 129, 192, 239, 239, 239, 229], 104) := by decide +kernel
theorem dX11_readsStatement_120 : decode cX11_readsStatement 120 = .ok (.aload_n 0, 1) := by decide +kernel
theorem dX11_readsStatement_121 : decode cX11_readsStatement 121 = .ok (.invokevirtual 98, 3) := by decide +kernel
theorem dX11_readsStatement_124 : decode cX11_readsStatement 124 = .ok (.ifCond .eq 16, 3) := by decide +kernel
theorem dX11_readsStatement_127 : decode cX11_readsStatement 127 = .ok (.aload_n 0, 1) := by decide +kernel
theorem dX11_readsStatement_128 : decode cX11_readsStatement 128 = .ok (.iconst 1, 1) := by decide +kernel
theorem dX11_readsStatement_129 : decode cX11_readsStatement 129 = .ok (.iconst 1, 1) := by decide +kernel
theorem dX11_readsStatement_130 : decode cX11_readsStatement 130 = .ok (.invokevirtual 102, 3) := by decide +kernel
theorem dX11_readsStatement_133 : decode cX11_readsStatement 133 = .ok (.ifCond .eq 7, 3) := by decide +kernel
theorem dX11_readsStatement_136 : decode cX11_readsStatement 136 = .ok (.iconst 1, 1) := by decide +kernel
theorem dX11_readsStatement_137 : decode cX11_readsStatement 137 = .ok (.goto 4, 3) := by decide +kernel
theorem dX11_readsStatement_140 : decode cX11_readsStatement 140 = .ok (.iconst 0, 1) := by decide +kernel
theorem dX11_readsStatement_141 : decode cX11_readsStatement 141 = .ok (.istore_n 2, 1) := by decide +kernel
theorem dX11_readsStatement_142 : decode cX11_readsStatement 142 = .ok (.goto 125, 3) := by decide +kernel
theorem dX11_readsStatement_145 : decode cX11_readsStatement 145 = .ok (.aload_n 0, 1) := by decide +kernel
theorem dX11_readsStatement_146 : decode cX11_readsStatement 146 = .ok (.iconst 0, 1) := by decide +kernel
theorem dX11_readsStatement_147 : decode cX11_readsStatement 147 = .ok (.iconst 1, 1) := by decide +kernel
theorem dX11_readsStatement_148 : decode cX11_readsStatement 148 = .ok (.invokevirtual 102, 3) := by decide +kernel
theorem dX11_readsStatement_151 : decode cX11_readsStatement 151 = .ok (.ifCond .eq 25, 3) := by decide +kernel
theorem dX11_readsStatement_154 : decode cX11_readsStatement 154 = .ok (.aload_n 0, 1) := by decide +kernel
theorem dX11_readsStatement_155 : decode cX11_readsStatement 155 = .ok (.iconst 1, 1) := by decide +kernel
theorem dX11_readsStatement_156 : decode cX11_readsStatement 156 = .ok (.iconst 1, 1) := by decide +kernel
theorem dX11_readsStatement_157 : decode cX11_readsStatement 157 = .ok (.invokevirtual 102, 3) := by decide +kernel
theorem dX11_readsStatement_160 : decode cX11_readsStatement 160 = .ok (.ifCond .eq 16, 3) := by decide +kernel
theorem dX11_readsStatement_163 : decode cX11_readsStatement 163 = .ok (.aload_n 0, 1) := by decide +kernel
theorem dX11_readsStatement_164 : decode cX11_readsStatement 164 = .ok (.iconst 2, 1) := by decide +kernel
theorem dX11_readsStatement_165 : decode cX11_readsStatement 165 = .ok (.iconst 2, 1) := by decide +kernel
theorem dX11_readsStatement_166 : decode cX11_readsStatement 166 = .ok (.invokevirtual 102, 3) := by decide +kernel
theorem dX11_readsStatement_169 : decode cX11_readsStatement 169 = .ok (.ifCond .eq 7, 3) := by decide +kernel
theorem dX11_readsStatement_172 : decode cX11_readsStatement 172 = .ok (.iconst 1, 1) := by decide +kernel
theorem dX11_readsStatement_173 : decode cX11_readsStatement 173 = .ok (.goto 4, 3) := by decide +kernel
theorem dX11_readsStatement_176 : decode cX11_readsStatement 176 = .ok (.iconst 0, 1) := by decide +kernel
theorem dX11_readsStatement_177 : decode cX11_readsStatement 177 = .ok (.istore_n 2, 1) := by decide +kernel
theorem dX11_readsStatement_178 : decode cX11_readsStatement 178 = .ok (.goto 89, 3) := by decide +kernel
theorem dX11_readsStatement_181 : decode cX11_readsStatement 181 = .ok (.aload_n 0, 1) := by decide +kernel
theorem dX11_readsStatement_182 : decode cX11_readsStatement 182 = .ok (.iconst 0, 1) := by decide +kernel
theorem dX11_readsStatement_183 : decode cX11_readsStatement 183 = .ok (.iconst 1, 1) := by decide +kernel
theorem dX11_readsStatement_184 : decode cX11_readsStatement 184 = .ok (.invokevirtual 102, 3) := by decide +kernel
theorem dX11_readsStatement_187 : decode cX11_readsStatement 187 = .ok (.ifCond .eq 16, 3) := by decide +kernel
theorem dX11_readsStatement_190 : decode cX11_readsStatement 190 = .ok (.aload_n 0, 1) := by decide +kernel
theorem dX11_readsStatement_191 : decode cX11_readsStatement 191 = .ok (.iconst 1, 1) := by decide +kernel
theorem dX11_readsStatement_192 : decode cX11_readsStatement 192 = .ok (.iconst 2, 1) := by decide +kernel
theorem dX11_readsStatement_193 : decode cX11_readsStatement 193 = .ok (.invokevirtual 102, 3) := by decide +kernel
theorem dX11_readsStatement_196 : decode cX11_readsStatement 196 = .ok (.ifCond .eq 7, 3) := by decide +kernel
theorem dX11_readsStatement_199 : decode cX11_readsStatement 199 = .ok (.iconst 1, 1) := by decide +kernel
theorem dX11_readsStatement_200 : decode cX11_readsStatement 200 = .ok (.goto 4, 3) := by decide +kernel
theorem dX11_readsStatement_203 : decode cX11_readsStatement 203 = .ok (.iconst 0, 1) := by decide +kernel
theorem dX11_readsStatement_204 : decode cX11_readsStatement 204 = .ok (.istore_n 2, 1) := by decide +kernel
theorem dX11_readsStatement_205 : decode cX11_readsStatement 205 = .ok (.goto 62, 3) := by decide +kernel
theorem dX11_readsStatement_208 : decode cX11_readsStatement 208 = .ok (.aload_n 0, 1) := by decide +kernel
theorem dX11_readsStatement_209 : decode cX11_readsStatement 209 = .ok (.iconst 0, 1) := by decide +kernel
theorem dX11_readsStatement_210 : decode cX11_readsStatement 210 = .ok (.iconst 1, 1) := by decide +kernel
theorem dX11_readsStatement_211 : decode cX11_readsStatement 211 = .ok (.invokevirtual 102, 3) := by decide +kernel
theorem dX11_readsStatement_214 : decode cX11_readsStatement 214 = .ok (.ifCond .eq 16, 3) := by decide +kernel
theorem dX11_readsStatement_217 : decode cX11_readsStatement 217 = .ok (.aload_n 0, 1) := by decide +kernel
theorem dX11_readsStatement_218 : decode cX11_readsStatement 218 = .ok (.iconst 1, 1) := by decide +kernel
theorem dX11_readsStatement_219 : decode cX11_readsStatement 219 = .ok (.iconst 1, 1) := by decide +kernel
theorem dX11_readsStatement_220 : decode cX11_readsStatement 220 = .ok (.invokevirtual 102, 3) := by decide +kernel
theorem dX11_readsStatement_223 : decode cX11_readsStatement 223 = .ok (.ifCond .eq 7, 3) := by decide +kernel
theorem dX11_readsStatement_226 : decode cX11_readsStatement 226 = .ok (.iconst 1, 1) := by decide +kernel
theorem dX11_readsStatement_227 : decode cX11_readsStatement 227 = .ok (.goto 4, 3) := by decide +kernel
theorem dX11_readsStatement_230 : decode cX11_readsStatement 230 = .ok (.iconst 0, 1) := by decide +kernel
theorem dX11_readsStatement_231 : decode cX11_readsStatement 231 = .ok (.istore_n 2, 1) := by decide +kernel
theorem dX11_readsStatement_232 : decode cX11_readsStatement 232 = .ok (.goto 35, 3) := by decide +kernel
theorem dX11_readsStatement_235 : decode cX11_readsStatement 235 = .ok (.aload_n 0, 1) := by decide +kernel
theorem dX11_readsStatement_236 : decode cX11_readsStatement 236 = .ok (.iconst 0, 1) := by decide +kernel
theorem dX11_readsStatement_237 : decode cX11_readsStatement 237 = .ok (.iconst 1, 1) := by decide +kernel
theorem dX11_readsStatement_238 : decode cX11_readsStatement 238 = .ok (.invokevirtual 102, 3) := by decide +kernel
theorem dX11_readsStatement_241 : decode cX11_readsStatement 241 = .ok (.istore_n 2, 1) := by decide +kernel
theorem dX11_readsStatement_242 : decode cX11_readsStatement 242 = .ok (.goto 25, 3) := by decide +kernel
theorem dX11_readsStatement_245 : decode cX11_readsStatement 245 = .ok (.aload_n 0, 1) := by decide +kernel
theorem dX11_readsStatement_246 : decode cX11_readsStatement 246 = .ok (.iconst 0, 1) := by decide +kernel
theorem dX11_readsStatement_247 : decode cX11_readsStatement 247 = .ok (.iconst 2, 1) := by decide +kernel
theorem dX11_readsStatement_248 : decode cX11_readsStatement 248 = .ok (.invokevirtual 102, 3) := by decide +kernel
theorem dX11_readsStatement_251 : decode cX11_readsStatement 251 = .ok (.istore_n 2, 1) := by decide +kernel
theorem dX11_readsStatement_252 : decode cX11_readsStatement 252 = .ok (.goto 15, 3) := by decide +kernel
theorem dX11_readsStatement_255 : decode cX11_readsStatement 255 = .ok (.aload_n 0, 1) := by decide +kernel
theorem dX11_readsStatement_256 : decode cX11_readsStatement 256 = .ok (.dup, 1) := by decide +kernel
theorem dX11_readsStatement_257 : decode cX11_readsStatement 257 = .ok (.getfield 88, 3) := by decide +kernel
theorem dX11_readsStatement_260 : decode cX11_readsStatement 260 = .ok (.iconst 1, 1) := by decide +kernel
theorem dX11_readsStatement_261 : decode cX11_readsStatement 261 = .ok (.isub, 1) := by decide +kernel
theorem dX11_readsStatement_262 : decode cX11_readsStatement 262 = .ok (.putfield 88, 3) := by decide +kernel
theorem dX11_readsStatement_265 : decode cX11_readsStatement 265 = .ok (.iconst 0, 1) := by decide +kernel
theorem dX11_readsStatement_266 : decode cX11_readsStatement 266 = .ok (.ireturn, 1) := by decide +kernel
theorem dX11_readsStatement_267 : decode cX11_readsStatement 267 = .ok (.iload_n 2, 1) := by decide +kernel
theorem dX11_readsStatement_268 : decode cX11_readsStatement 268 = .ok (.ifCond .eq 12, 3) := by decide +kernel
theorem dX11_readsStatement_271 : decode cX11_readsStatement 271 = .ok (.aload_n 0, 1) := by decide +kernel
theorem dX11_readsStatement_272 : decode cX11_readsStatement 272 = .ok (.invokevirtual 91, 3) := by decide +kernel
theorem dX11_readsStatement_275 : decode cX11_readsStatement 275 = .ok (.bipush 59, 2) := by decide +kernel
theorem dX11_readsStatement_277 : decode cX11_readsStatement 277 = .ok (.if_icmp .eq 5, 3) := by decide +kernel
theorem dX11_readsStatement_280 : decode cX11_readsStatement 280 = .ok (.iconst 0, 1) := by decide +kernel
theorem dX11_readsStatement_281 : decode cX11_readsStatement 281 = .ok (.ireturn, 1) := by decide +kernel
theorem dX11_readsStatement_282 : decode cX11_readsStatement 282 = .ok (.aload_n 0, 1) := by decide +kernel
theorem dX11_readsStatement_283 : decode cX11_readsStatement 283 = .ok (.dup, 1) := by decide +kernel
theorem dX11_readsStatement_284 : decode cX11_readsStatement 284 = .ok (.getfield 88, 3) := by decide +kernel
theorem dX11_readsStatement_287 : decode cX11_readsStatement 287 = .ok (.iconst 1, 1) := by decide +kernel
theorem dX11_readsStatement_288 : decode cX11_readsStatement 288 = .ok (.iadd, 1) := by decide +kernel
theorem dX11_readsStatement_289 : decode cX11_readsStatement 289 = .ok (.putfield 88, 3) := by decide +kernel
theorem dX11_readsStatement_292 : decode cX11_readsStatement 292 = .ok (.iconst 1, 1) := by decide +kernel
theorem dX11_readsStatement_293 : decode cX11_readsStatement 293 = .ok (.ireturn, 1) := by decide +kernel
set_option maxRecDepth 20000 in
theorem ggX11_adds_X11_of : GoodIn wsX11_adds wsX11_of := goodIn_r _ [5] (by decide +kernel) (by decide +kernel)
set_option maxRecDepth 20000 in
theorem gX11_adds_X11_of : GoodIn wsX11_adds (va_wsS RX11 48 yX11_of wsX11_of) := goodIn_app (goodIn_of _ (by decide +kernel)) ggX11_adds_X11_of
set_option maxRecDepth 20000 in
theorem ggX11_adds_X11_by : GoodIn wsX11_adds wsX11_by := goodIn_r _ [8] (by decide +kernel) (by decide +kernel)
set_option maxRecDepth 20000 in
theorem gX11_adds_X11_by : GoodIn wsX11_adds (va_wsS RX11 56 yX11_by wsX11_by) := goodIn_app (goodIn_of _ (by decide +kernel)) ggX11_adds_X11_by
theorem dX11_adds_0 : decode cX11_adds 0 = .ok (.aload_n 0, 1) := by decide +kernel
theorem dX11_adds_1 : decode cX11_adds 1 = .ok (.getfield 9, 3) := by decide +kernel
theorem dX11_adds_4 : decode cX11_adds 4 = .ok (.iconst 0, 1) := by decide +kernel
theorem dX11_adds_5 : decode cX11_adds 5 = .ok (.iaload, 1) := by decide +kernel
theorem dX11_adds_6 : decode cX11_adds 6 = .ok (.bipush 8, 2) := by decide +kernel
theorem dX11_adds_8 : decode cX11_adds 8 = .ok (.if_icmp .ne 5, 3) := by decide +kernel
theorem dX11_adds_11 : decode cX11_adds 11 = .ok (.iconst 0, 1) := by decide +kernel
theorem dX11_adds_12 : decode cX11_adds 12 = .ok (.ireturn, 1) := by decide +kernel
theorem dX11_adds_13 : decode cX11_adds 13 = .ok (.aload_n 0, 1) := by decide +kernel
theorem dX11_adds_14 : decode cX11_adds 14 = .ok (.getfield 9, 3) := by decide +kernel
theorem dX11_adds_17 : decode cX11_adds 17 = .ok (.iconst 0, 1) := by decide +kernel
theorem dX11_adds_18 : decode cX11_adds 18 = .ok (.iaload, 1) := by decide +kernel
theorem dX11_adds_19 : decode cX11_adds 19 = .ok (.istore_n 3, 1) := by decide +kernel
theorem dX11_adds_20 : decode cX11_adds 20 = .ok (.aload_n 0, 1) := by decide +kernel
theorem dX11_adds_21 : decode cX11_adds 21 = .ok (.getfield 9, 3) := by decide +kernel
theorem dX11_adds_24 : decode cX11_adds 24 = .ok (.iload_n 3, 1) := by decide +kernel
theorem dX11_adds_25 : decode cX11_adds 25 = .ok (.iconst 0, 1) := by decide +kernel
theorem dX11_adds_26 : decode cX11_adds 26 = .ok (.invokestatic 48, 3) := by decide +kernel
theorem dX11_adds_29 : decode cX11_adds 29 = .ok (.iload_n 1, 1) := by decide +kernel
theorem dX11_adds_30 : decode cX11_adds 30 = .ok (.iastore, 1) := by decide +kernel
theorem dX11_adds_31 : decode cX11_adds 31 = .ok (.aload_n 0, 1) := by decide +kernel
theorem dX11_adds_32 : decode cX11_adds 32 = .ok (.getfield 9, 3) := by decide +kernel
theorem dX11_adds_35 : decode cX11_adds 35 = .ok (.iload_n 3, 1) := by decide +kernel
theorem dX11_adds_36 : decode cX11_adds 36 = .ok (.iconst 1, 1) := by decide +kernel
theorem dX11_adds_37 : decode cX11_adds 37 = .ok (.invokestatic 48, 3) := by decide +kernel
theorem dX11_adds_40 : decode cX11_adds 40 = .ok (.iload_n 2, 1) := by decide +kernel
theorem dX11_adds_41 : decode cX11_adds 41 = .ok (.iastore, 1) := by decide +kernel
theorem dX11_adds_42 : decode cX11_adds 42 = .ok (.aload_n 0, 1) := by decide +kernel
theorem dX11_adds_43 : decode cX11_adds 43 = .ok (.getfield 9, 3) := by decide +kernel
theorem dX11_adds_46 : decode cX11_adds 46 = .ok (.iload_n 3, 1) := by decide +kernel
theorem dX11_adds_47 : decode cX11_adds 47 = .ok (.iconst 2, 1) := by decide +kernel
theorem dX11_adds_48 : decode cX11_adds 48 = .ok (.invokestatic 48, 3) := by decide +kernel
theorem dX11_adds_51 : decode cX11_adds 51 = .ok (.iconst 1, 1) := by decide +kernel
theorem dX11_adds_52 : decode cX11_adds 52 = .ok (.iastore, 1) := by decide +kernel
theorem dX11_adds_53 : decode cX11_adds 53 = .ok (.aload_n 0, 1) := by decide +kernel
theorem dX11_adds_54 : decode cX11_adds 54 = .ok (.getfield 9, 3) := by decide +kernel
theorem dX11_adds_57 : decode cX11_adds 57 = .ok (.iload_n 3, 1) := by decide +kernel
theorem dX11_adds_58 : decode cX11_adds 58 = .ok (.iconst 3, 1) := by decide +kernel
theorem dX11_adds_59 : decode cX11_adds 59 = .ok (.invokestatic 48, 3) := by decide +kernel
theorem dX11_adds_62 : decode cX11_adds 62 = .ok (.iconst 0, 1) := by decide +kernel
theorem dX11_adds_63 : decode cX11_adds 63 = .ok (.iastore, 1) := by decide +kernel
theorem dX11_adds_64 : decode cX11_adds 64 = .ok (.iconst 0, 1) := by decide +kernel
theorem dX11_adds_65 : decode cX11_adds 65 = .ok (.istore 4, 2) := by decide +kernel
theorem dX11_adds_67 : decode cX11_adds 67 = .ok (.iload 4, 2) := by decide +kernel
theorem dX11_adds_69 : decode cX11_adds 69 = .ok (.iload_n 3, 1) := by decide +kernel
theorem dX11_adds_70 : decode cX11_adds 70 = .ok (.if_icmp .ge 35, 3) := by decide +kernel
theorem dX11_adds_73 : decode cX11_adds 73 = .ok (.aload_n 0, 1) := by decide +kernel
theorem dX11_adds_74 : decode cX11_adds 74 = .ok (.getfield 9, 3) := by decide +kernel
theorem dX11_adds_77 : decode cX11_adds 77 = .ok (.iload 4, 2) := by decide +kernel
theorem dX11_adds_79 : decode cX11_adds 79 = .ok (.iload_n 3, 1) := by decide +kernel
theorem dX11_adds_80 : decode cX11_adds 80 = .ok (.invokestatic 56, 3) := by decide +kernel
theorem dX11_adds_83 : decode cX11_adds 83 = .ok (.bipush 50, 2) := by decide +kernel
theorem dX11_adds_85 : decode cX11_adds 85 = .ok (.iastore, 1) := by decide +kernel
theorem dX11_adds_86 : decode cX11_adds 86 = .ok (.aload_n 0, 1) := by decide +kernel
theorem dX11_adds_87 : decode cX11_adds 87 = .ok (.getfield 9, 3) := by decide +kernel
theorem dX11_adds_90 : decode cX11_adds 90 = .ok (.iload_n 3, 1) := by decide +kernel
theorem dX11_adds_91 : decode cX11_adds 91 = .ok (.iload 4, 2) := by decide +kernel
theorem dX11_adds_93 : decode cX11_adds 93 = .ok (.invokestatic 56, 3) := by decide +kernel
theorem dX11_adds_96 : decode cX11_adds 96 = .ok (.bipush 50, 2) := by decide +kernel
theorem dX11_adds_98 : decode cX11_adds 98 = .ok (.iastore, 1) := by decide +kernel
theorem dX11_adds_99 : decode cX11_adds 99 = .ok (.iinc 4 1, 3) := by decide +kernel
theorem dX11_adds_102 : decode cX11_adds 102 = .ok (.goto (-35), 3) := by decide +kernel
theorem dX11_adds_105 : decode cX11_adds 105 = .ok (.aload_n 0, 1) := by decide +kernel
theorem dX11_adds_106 : decode cX11_adds 106 = .ok (.getfield 9, 3) := by decide +kernel
theorem dX11_adds_109 : decode cX11_adds 109 = .ok (.iconst 0, 1) := by decide +kernel
theorem dX11_adds_110 : decode cX11_adds 110 = .ok (.dup2, 1) := by decide +kernel
theorem dX11_adds_111 : decode cX11_adds 111 = .ok (.iaload, 1) := by decide +kernel
theorem dX11_adds_112 : decode cX11_adds 112 = .ok (.iconst 1, 1) := by decide +kernel
theorem dX11_adds_113 : decode cX11_adds 113 = .ok (.iadd, 1) := by decide +kernel
theorem dX11_adds_114 : decode cX11_adds 114 = .ok (.iastore, 1) := by decide +kernel
theorem dX11_adds_115 : decode cX11_adds 115 = .ok (.iconst 1, 1) := by decide +kernel
theorem dX11_adds_116 : decode cX11_adds 116 = .ok (.ireturn, 1) := by decide +kernel
set_option maxRecDepth 20000 in
theorem ggX11_isDone_X11_adds : GoodIn wsX11_isDone wsX11_adds := goodIn_r _ [7, 2, 8, 9, 6, 10, 11, 12, 13, 58, 59, 60, 61, 62, 63, 64, 65, 66, 67, 68, 69, 70] (by decide +kernel) (by decide +kernel)
set_option maxRecDepth 20000 in
theorem gX11_isDone_X11_adds : GoodIn wsX11_isDone (wsV RX11 106 RX11 yX11_adds wsX11_adds) := goodIn_app (goodIn_of _ (by decide +kernel)) ggX11_isDone_X11_adds
set_option maxRecDepth 20000 in
theorem ggX11_isDone_X11_areTwo : GoodIn wsX11_isDone wsX11_areTwo := goodIn_r _ [17, 18, 19, 20, 6, 21, 2, 22, 23, 24, 58, 59, 60, 61, 62, 63, 64, 65, 66, 67, 68, 69, 70] (by decide +kernel) (by decide +kernel)
set_option maxRecDepth 20000 in
theorem gX11_isDone_X11_areTwo : GoodIn wsX11_isDone (wsV RX11 109 RX11 yX11_areTwo wsX11_areTwo) := goodIn_app (goodIn_of _ (by decide +kernel)) ggX11_isDone_X11_areTwo
set_option maxRecDepth 20000 in
theorem ggX11_isDone_X11_by : GoodIn wsX11_isDone wsX11_by := goodIn_r _ [13] (by decide +kernel) (by decide +kernel)
set_option maxRecDepth 20000 in
theorem gX11_isDone_X11_by : GoodIn wsX11_isDone (va_wsS RX11 56 yX11_by wsX11_by) := goodIn_app (goodIn_of _ (by decide +kernel)) ggX11_isDone_X11_by
set_option maxRecDepth 20000 in
theorem ggX11_isDone_X11_isOne : GoodIn wsX11_isDone wsX11_isOne := goodIn_r _ [21, 2, 22, 23, 6, 24, 58, 59, 60, 61, 62, 63, 64, 65, 66, 67, 68, 69, 70] (by decide +kernel) (by decide +kernel)
set_option maxRecDepth 20000 in
theorem gX11_isDone_X11_isOne : GoodIn wsX11_isDone (wsV RX11 44 RX11 yX11_isOne wsX11_isOne) := goodIn_app (goodIn_of _ (by decide +kernel)) ggX11_isDone_X11_isOne
set_option maxRecDepth 20000 in
theorem ggX11_isDone_X11_of : GoodIn wsX11_isDone wsX11_of := goodIn_r _ [10] (by decide +kernel) (by decide +kernel)
set_option maxRecDepth 20000 in
theorem gX11_isDone_X11_of : GoodIn wsX11_isDone (va_wsS RX11 48 yX11_of wsX11_of) := goodIn_app (goodIn_of _ (by decide +kernel)) ggX11_isDone_X11_of
set_option maxRecDepth 20000 in
theorem ggX11_isDone_X11_isHere : GoodIn wsX11_isDone wsX11_isHere := goodIn_r _ [27, 8, 9, 6, 10] (by decide +kernel) (by decide +kernel)
set_option maxRecDepth 20000 in
theorem gX11_isDone_X11_isHere : GoodIn wsX11_isDone (va_wsS RX11 52 yX11_isHere wsX11_isHere) := goodIn_app (goodIn_of _ (by decide +kernel)) ggX11_isDone_X11_isHere
set_option maxRecDepth 20000 in
theorem ggX11_isDone_X11_speaksIn : GoodIn wsX11_isDone wsX11_speaksIn := goodIn_r _ [30, 11, 12, 6, 13, 31, 32, 33] (by decide +kernel) (by decide +kernel)
set_option maxRecDepth 20000 in
theorem gX11_isDone_X11_speaksIn : GoodIn wsX11_isDone (va_wsS RX11 112 yX11_speaksIn wsX11_speaksIn) := goodIn_app (goodIn_of _ (by decide +kernel)) ggX11_isDone_X11_speaksIn
set_option maxRecDepth 20000 in
theorem ggX11_isDone_X11_comesBack : GoodIn wsX11_isDone wsX11_comesBack := goodIn_r _ [36, 25, 26, 6, 27, 8, 9, 10, 11, 12, 13] (by decide +kernel) (by decide +kernel)
set_option maxRecDepth 20000 in
theorem gX11_isDone_X11_comesBack : GoodIn wsX11_isDone (va_wsS RX11 116 yX11_comesBack wsX11_comesBack) := goodIn_app (goodIn_of _ (by decide +kernel)) ggX11_isDone_X11_comesBack
set_option maxRecDepth 20000 in
theorem ggX11_isDone_X11_isIn : GoodIn wsX11_isDone wsX11_isIn := goodIn_r _ [24] (by decide +kernel) (by decide +kernel)
set_option maxRecDepth 20000 in
theorem gX11_isDone_X11_isIn : GoodIn wsX11_isDone (va_wsS RX11 40 yX11_isIn wsX11_isIn) := goodIn_app (goodIn_of _ (by decide +kernel)) ggX11_isDone_X11_isIn
set_option maxRecDepth 20000 in
theorem ggX11_isDone_X11_weeksOn : GoodIn wsX11_isDone wsX11_weeksOn := goodIn_r _ [39, 40, 41, 6, 42, 43, 44, 45, 8, 9, 10, 25, 26, 27, 11, 12, 13, 31, 32, 33, 46, 47, 48, 49, 50, 51, 52, 53, 54, 55, 56, 57] (by decide +kernel) (by decide +kernel)
set_option maxRecDepth 20000 in
theorem gX11_isDone_X11_weeksOn : GoodIn wsX11_isDone (va_wsS RX11 119 yX11_weeksOn wsX11_weeksOn) := goodIn_app (goodIn_of _ (by decide +kernel)) ggX11_isDone_X11_weeksOn
theorem dX11_isDone_0 : decode cX11_isDone 0 = .ok (.aload_n 0, 1) := by decide +kernel
theorem dX11_isDone_1 : decode cX11_isDone 1 = .ok (.getfield 31, 3) := by decide +kernel
theorem dX11_isDone_4 : decode cX11_isDone 4 = .ok (.iconst 0, 1) := by decide +kernel
theorem dX11_isDone_5 : decode cX11_isDone 5 = .ok (.iaload, 1) := by decide +kernel
theorem dX11_isDone_6 : decode cX11_isDone 6 = .ok (.istore_n 2, 1) := by decide +kernel
theorem dX11_isDone_7 : decode cX11_isDone 7 = .ok (.aload_n 0, 1) := by decide +kernel
theorem dX11_isDone_8 : decode cX11_isDone 8 = .ok (.getfield 31, 3) := by decide +kernel
theorem dX11_isDone_11 : decode cX11_isDone 11 = .ok (.iconst 1, 1) := by decide +kernel
theorem dX11_isDone_12 : decode cX11_isDone 12 = .ok (.iaload, 1) := by decide +kernel
theorem dX11_isDone_13 : decode cX11_isDone 13 = .ok (.istore_n 3, 1) := by decide +kernel
theorem dX11_isDone_14 : decode cX11_isDone 14 = .ok (.iload_n 1, 1) := by decide +kernel
theorem dX11_isDone_15 : decode cX11_isDone 15 = .ok (.tableswitch 237 98 115 #[188, 237, 237, 237, 237, 237, 237, 237, 237, 237, 237, 237, 219, 121, 85, 237, 92, 144], 85) := by decide +kernel
theorem dX11_isDone_100 : decode cX11_isDone 100 = .ok (.aload_n 0, 1) := by decide +kernel
theorem dX11_isDone_101 : decode cX11_isDone 101 = .ok (.iload_n 2, 1) := by decide +kernel
theorem dX11_isDone_102 : decode cX11_isDone 102 = .ok (.iload_n 3, 1) := by decide +kernel
theorem dX11_isDone_103 : decode cX11_isDone 103 = .ok (.invokevirtual 106, 3) := by decide +kernel
theorem dX11_isDone_106 : decode cX11_isDone 106 = .ok (.ireturn, 1) := by decide +kernel
theorem dX11_isDone_107 : decode cX11_isDone 107 = .ok (.aload_n 0, 1) := by decide +kernel
theorem dX11_isDone_108 : decode cX11_isDone 108 = .ok (.iload_n 2, 1) := by decide +kernel
theorem dX11_isDone_109 : decode cX11_isDone 109 = .ok (.iload_n 3, 1) := by decide +kernel
theorem dX11_isDone_110 : decode cX11_isDone 110 = .ok (.invokevirtual 109, 3) := by decide +kernel
theorem dX11_isDone_113 : decode cX11_isDone 113 = .ok (.ifCond .ne 5, 3) := by decide +kernel
theorem dX11_isDone_116 : decode cX11_isDone 116 = .ok (.iconst 0, 1) := by decide +kernel
theorem dX11_isDone_117 : decode cX11_isDone 117 = .ok (.ireturn, 1) := by decide +kernel
theorem dX11_isDone_118 : decode cX11_isDone 118 = .ok (.aload_n 0, 1) := by decide +kernel
theorem dX11_isDone_119 : decode cX11_isDone 119 = .ok (.getfield 9, 3) := by decide +kernel
theorem dX11_isDone_122 : decode cX11_isDone 122 = .ok (.iload_n 2, 1) := by decide +kernel
theorem dX11_isDone_123 : decode cX11_isDone 123 = .ok (.iload_n 3, 1) := by decide +kernel
theorem dX11_isDone_124 : decode cX11_isDone 124 = .ok (.invokestatic 56, 3) := by decide +kernel
theorem dX11_isDone_127 : decode cX11_isDone 127 = .ok (.aload_n 0, 1) := by decide +kernel
theorem dX11_isDone_128 : decode cX11_isDone 128 = .ok (.getfield 31, 3) := by decide +kernel
theorem dX11_isDone_131 : decode cX11_isDone 131 = .ok (.iconst 2, 1) := by decide +kernel
theorem dX11_isDone_132 : decode cX11_isDone 132 = .ok (.iaload, 1) := by decide +kernel
theorem dX11_isDone_133 : decode cX11_isDone 133 = .ok (.iastore, 1) := by decide +kernel
theorem dX11_isDone_134 : decode cX11_isDone 134 = .ok (.iconst 1, 1) := by decide +kernel
theorem dX11_isDone_135 : decode cX11_isDone 135 = .ok (.ireturn, 1) := by decide +kernel
theorem dX11_isDone_136 : decode cX11_isDone 136 = .ok (.aload_n 0, 1) := by decide +kernel
theorem dX11_isDone_137 : decode cX11_isDone 137 = .ok (.iload_n 2, 1) := by decide +kernel
theorem dX11_isDone_138 : decode cX11_isDone 138 = .ok (.invokevirtual 44, 3) := by decide +kernel
theorem dX11_isDone_141 : decode cX11_isDone 141 = .ok (.ifCond .ne 5, 3) := by decide +kernel
theorem dX11_isDone_144 : decode cX11_isDone 144 = .ok (.iconst 0, 1) := by decide +kernel
theorem dX11_isDone_145 : decode cX11_isDone 145 = .ok (.ireturn, 1) := by decide +kernel
theorem dX11_isDone_146 : decode cX11_isDone 146 = .ok (.aload_n 0, 1) := by decide +kernel
theorem dX11_isDone_147 : decode cX11_isDone 147 = .ok (.getfield 9, 3) := by decide +kernel
theorem dX11_isDone_150 : decode cX11_isDone 150 = .ok (.iload_n 2, 1) := by decide +kernel
theorem dX11_isDone_151 : decode cX11_isDone 151 = .ok (.iconst 3, 1) := by decide +kernel
theorem dX11_isDone_152 : decode cX11_isDone 152 = .ok (.invokestatic 48, 3) := by decide +kernel
theorem dX11_isDone_155 : decode cX11_isDone 155 = .ok (.iload_n 3, 1) := by decide +kernel
theorem dX11_isDone_156 : decode cX11_isDone 156 = .ok (.iastore, 1) := by decide +kernel
theorem dX11_isDone_157 : decode cX11_isDone 157 = .ok (.iconst 1, 1) := by decide +kernel
theorem dX11_isDone_158 : decode cX11_isDone 158 = .ok (.ireturn, 1) := by decide +kernel
theorem dX11_isDone_159 : decode cX11_isDone 159 = .ok (.aload_n 0, 1) := by decide +kernel
theorem dX11_isDone_160 : decode cX11_isDone 160 = .ok (.iload_n 2, 1) := by decide +kernel
theorem dX11_isDone_161 : decode cX11_isDone 161 = .ok (.iload_n 3, 1) := by decide +kernel
theorem dX11_isDone_162 : decode cX11_isDone 162 = .ok (.invokevirtual 109, 3) := by decide +kernel
theorem dX11_isDone_165 : decode cX11_isDone 165 = .ok (.ifCond .eq 25, 3) := by decide +kernel
theorem dX11_isDone_168 : decode cX11_isDone 168 = .ok (.aload_n 0, 1) := by decide +kernel
theorem dX11_isDone_169 : decode cX11_isDone 169 = .ok (.getfield 9, 3) := by decide +kernel
theorem dX11_isDone_172 : decode cX11_isDone 172 = .ok (.iload_n 2, 1) := by decide +kernel
theorem dX11_isDone_173 : decode cX11_isDone 173 = .ok (.invokestatic 52, 3) := by decide +kernel
theorem dX11_isDone_176 : decode cX11_isDone 176 = .ok (.ifCond .eq 14, 3) := by decide +kernel
theorem dX11_isDone_179 : decode cX11_isDone 179 = .ok (.aload_n 0, 1) := by decide +kernel
theorem dX11_isDone_180 : decode cX11_isDone 180 = .ok (.getfield 9, 3) := by decide +kernel
theorem dX11_isDone_183 : decode cX11_isDone 183 = .ok (.iload_n 3, 1) := by decide +kernel
theorem dX11_isDone_184 : decode cX11_isDone 184 = .ok (.invokestatic 52, 3) := by decide +kernel
theorem dX11_isDone_187 : decode cX11_isDone 187 = .ok (.ifCond .ne 5, 3) := by decide +kernel
theorem dX11_isDone_190 : decode cX11_isDone 190 = .ok (.iconst 0, 1) := by decide +kernel
theorem dX11_isDone_191 : decode cX11_isDone 191 = .ok (.ireturn, 1) := by decide +kernel
theorem dX11_isDone_192 : decode cX11_isDone 192 = .ok (.aload_n 0, 1) := by decide +kernel
theorem dX11_isDone_193 : decode cX11_isDone 193 = .ok (.getfield 9, 3) := by decide +kernel
theorem dX11_isDone_196 : decode cX11_isDone 196 = .ok (.iload_n 2, 1) := by decide +kernel
theorem dX11_isDone_197 : decode cX11_isDone 197 = .ok (.iload_n 3, 1) := by decide +kernel
theorem dX11_isDone_198 : decode cX11_isDone 198 = .ok (.invokestatic 112, 3) := by decide +kernel
theorem dX11_isDone_201 : decode cX11_isDone 201 = .ok (.iconst 1, 1) := by decide +kernel
theorem dX11_isDone_202 : decode cX11_isDone 202 = .ok (.ireturn, 1) := by decide +kernel
theorem dX11_isDone_203 : decode cX11_isDone 203 = .ok (.aload_n 0, 1) := by decide +kernel
theorem dX11_isDone_204 : decode cX11_isDone 204 = .ok (.iload_n 2, 1) := by decide +kernel
theorem dX11_isDone_205 : decode cX11_isDone 205 = .ok (.invokevirtual 44, 3) := by decide +kernel
theorem dX11_isDone_208 : decode cX11_isDone 208 = .ok (.ifCond .eq 14, 3) := by decide +kernel
theorem dX11_isDone_211 : decode cX11_isDone 211 = .ok (.aload_n 0, 1) := by decide +kernel
theorem dX11_isDone_212 : decode cX11_isDone 212 = .ok (.getfield 9, 3) := by decide +kernel
theorem dX11_isDone_215 : decode cX11_isDone 215 = .ok (.iload_n 2, 1) := by decide +kernel
theorem dX11_isDone_216 : decode cX11_isDone 216 = .ok (.invokestatic 52, 3) := by decide +kernel
theorem dX11_isDone_219 : decode cX11_isDone 219 = .ok (.ifCond .eq 5, 3) := by decide +kernel
theorem dX11_isDone_222 : decode cX11_isDone 222 = .ok (.iconst 0, 1) := by decide +kernel
theorem dX11_isDone_223 : decode cX11_isDone 223 = .ok (.ireturn, 1) := by decide +kernel
theorem dX11_isDone_224 : decode cX11_isDone 224 = .ok (.aload_n 0, 1) := by decide +kernel
theorem dX11_isDone_225 : decode cX11_isDone 225 = .ok (.getfield 9, 3) := by decide +kernel
theorem dX11_isDone_228 : decode cX11_isDone 228 = .ok (.iload_n 2, 1) := by decide +kernel
theorem dX11_isDone_229 : decode cX11_isDone 229 = .ok (.invokestatic 116, 3) := by decide +kernel
theorem dX11_isDone_232 : decode cX11_isDone 232 = .ok (.iconst 1, 1) := by decide +kernel
theorem dX11_isDone_233 : decode cX11_isDone 233 = .ok (.ireturn, 1) := by decide +kernel
theorem dX11_isDone_234 : decode cX11_isDone 234 = .ok (.aload_n 0, 1) := by decide +kernel
theorem dX11_isDone_235 : decode cX11_isDone 235 = .ok (.getfield 9, 3) := by decide +kernel
theorem dX11_isDone_238 : decode cX11_isDone 238 = .ok (.iconst 2, 1) := by decide +kernel
theorem dX11_isDone_239 : decode cX11_isDone 239 = .ok (.iload_n 2, 1) := by decide +kernel
theorem dX11_isDone_240 : decode cX11_isDone 240 = .ok (.iastore, 1) := by decide +kernel
theorem dX11_isDone_241 : decode cX11_isDone 241 = .ok (.iload_n 2, 1) := by decide +kernel
theorem dX11_isDone_242 : decode cX11_isDone 242 = .ok (.iconst 3, 1) := by decide +kernel
theorem dX11_isDone_243 : decode cX11_isDone 243 = .ok (.if_icmp .gt 7, 3) := by decide +kernel
theorem dX11_isDone_246 : decode cX11_isDone 246 = .ok (.iconst 1, 1) := by decide +kernel
theorem dX11_isDone_247 : decode cX11_isDone 247 = .ok (.goto 4, 3) := by decide +kernel
theorem dX11_isDone_250 : decode cX11_isDone 250 = .ok (.iconst 0, 1) := by decide +kernel
theorem dX11_isDone_251 : decode cX11_isDone 251 = .ok (.ireturn, 1) := by decide +kernel
theorem dX11_isDone_252 : decode cX11_isDone 252 = .ok (.iload_n 2, 1) := by decide +kernel
theorem dX11_isDone_253 : decode cX11_isDone 253 = .ok (.iconst 1, 1) := by decide +kernel
theorem dX11_isDone_254 : decode cX11_isDone 254 = .ok (.bipush 60, 2) := by decide +kernel
theorem dX11_isDone_256 : decode cX11_isDone 256 = .ok (.invokestatic 40, 3) := by decide +kernel
theorem dX11_isDone_259 : decode cX11_isDone 259 = .ok (.ifCond .eq 17, 3) := by decide +kernel
theorem dX11_isDone_262 : decode cX11_isDone 262 = .ok (.aload_n 0, 1) := by decide +kernel
theorem dX11_isDone_263 : decode cX11_isDone 263 = .ok (.getfield 9, 3) := by decide +kernel
theorem dX11_isDone_266 : decode cX11_isDone 266 = .ok (.iconst 1, 1) := by decide +kernel
theorem dX11_isDone_267 : decode cX11_isDone 267 = .ok (.iaload, 1) := by decide +kernel
theorem dX11_isDone_268 : decode cX11_isDone 268 = .ok (.iload_n 2, 1) := by decide +kernel
theorem dX11_isDone_269 : decode cX11_isDone 269 = .ok (.iadd, 1) := by decide +kernel
theorem dX11_isDone_270 : decode cX11_isDone 270 = .ok (.sipush 999, 3) := by decide +kernel
theorem dX11_isDone_273 : decode cX11_isDone 273 = .ok (.if_icmp .le 5, 3) := by decide +kernel
theorem dX11_isDone_276 : decode cX11_isDone 276 = .ok (.iconst 0, 1) := by decide +kernel
theorem dX11_isDone_277 : decode cX11_isDone 277 = .ok (.ireturn, 1) := by decide +kernel
theorem dX11_isDone_278 : decode cX11_isDone 278 = .ok (.aload_n 0, 1) := by decide +kernel
theorem dX11_isDone_279 : decode cX11_isDone 279 = .ok (.getfield 9, 3) := by decide +kernel
theorem dX11_isDone_282 : decode cX11_isDone 282 = .ok (.iload_n 2, 1) := by decide +kernel
theorem dX11_isDone_283 : decode cX11_isDone 283 = .ok (.invokestatic 119, 3) := by decide +kernel
theorem dX11_isDone_286 : decode cX11_isDone 286 = .ok (.iconst 1, 1) := by decide +kernel
theorem dX11_isDone_287 : decode cX11_isDone 287 = .ok (.ireturn, 1) := by decide +kernel
set_option maxRecDepth 20000 in
theorem ggX11_valley_X11_readsStatement : GoodIn wsX11_valley wsX11_readsStatement := goodIn_r _ [9, 1, 10, 11, 12, 8, 13, 2, 14, 15, 16, 17, 18, 19, 20, 21, 22, 23, 24, 25, 26, 27, 28, 29, 88, 89, 90, 91, 92, 93, 94, 95, 96, 97, 98, 99, 100] (by decide +kernel) (by decide +kernel)
set_option maxRecDepth 20000 in
theorem gX11_valley_X11_readsStatement : GoodIn wsX11_valley (wsV RX11 122 RX11 yX11_readsStatement wsX11_readsStatement) := goodIn_app (goodIn_of _ (by decide +kernel)) ggX11_valley_X11_readsStatement
set_option maxRecDepth 20000 in
theorem ggX11_valley_X11_copies : GoodIn wsX11_valley wsX11_copies := goodIn_r _ [32] (by decide +kernel) (by decide +kernel)
set_option maxRecDepth 20000 in
theorem gX11_valley_X11_copies : GoodIn wsX11_valley (va_wsS RX11 125 yX11_copies wsX11_copies) := goodIn_app (goodIn_of _ (by decide +kernel)) ggX11_valley_X11_copies
set_option maxRecDepth 20000 in
theorem ggX11_valley_X11_here : GoodIn wsX11_valley wsX11_here := goodIn_r _ [13, 1, 2, 14, 88, 89, 90, 91, 92, 93, 94, 95, 96, 97, 98, 99, 100] (by decide +kernel) (by decide +kernel)
set_option maxRecDepth 20000 in
theorem gX11_valley_X11_here : GoodIn wsX11_valley (wsV RX11 91 RX11 yX11_here wsX11_here) := goodIn_app (goodIn_of _ (by decide +kernel)) ggX11_valley_X11_here
set_option maxRecDepth 20000 in
theorem ggX11_valley_X11_isDone : GoodIn wsX11_valley wsX11_isDone := goodIn_r _ [36, 19, 3, 37, 38, 39, 8, 40, 41, 42, 43, 44, 45, 46, 47, 48, 49, 50, 51, 52, 53, 54, 27, 28, 29, 55, 56, 57, 58, 59, 60, 61, 62, 63, 64, 65, 66, 67, 68, 69, 70, 71, 72, 73, 74, 75, 76, 77, 78, 79, 80, 81, 82, 83, 84, 85, 86, 87, 88, 89, 90, 91, 92, 93, 94, 95, 96, 97, 98, 99, 100] (by decide +kernel) (by decide +kernel)
set_option maxRecDepth 20000 in
theorem gX11_valley_X11_isDone : GoodIn wsX11_valley (wsV RX11 129 RX11 yX11_isDone wsX11_isDone) := goodIn_app (goodIn_of _ (by decide +kernel)) ggX11_valley_X11_isDone
theorem dX11_valley_0 : decode cX11_valley 0 = .ok (.aload_n 0, 1) := by decide +kernel
theorem dX11_valley_1 : decode cX11_valley 1 = .ok (.iconst 0, 1) := by decide +kernel
theorem dX11_valley_2 : decode cX11_valley 2 = .ok (.putfield 88, 3) := by decide +kernel
theorem dX11_valley_5 : decode cX11_valley 5 = .ok (.iconst 0, 1) := by decide +kernel
theorem dX11_valley_6 : decode cX11_valley 6 = .ok (.istore_n 1, 1) := by decide +kernel
theorem dX11_valley_7 : decode cX11_valley 7 = .ok (.bipush (-9), 2) := by decide +kernel
theorem dX11_valley_9 : decode cX11_valley 9 = .ok (.istore_n 2, 1) := by decide +kernel
theorem dX11_valley_10 : decode cX11_valley 10 = .ok (.aload_n 0, 1) := by decide +kernel
theorem dX11_valley_11 : decode cX11_valley 11 = .ok (.invokevirtual 122, 3) := by decide +kernel
theorem dX11_valley_14 : decode cX11_valley 14 = .ok (.ifCond .ne 12, 3) := by decide +kernel
theorem dX11_valley_17 : decode cX11_valley 17 = .ok (.sipush (-1000), 3) := by decide +kernel
theorem dX11_valley_20 : decode cX11_valley 20 = .ok (.aload_n 0, 1) := by decide +kernel
theorem dX11_valley_21 : decode cX11_valley 21 = .ok (.getfield 88, 3) := by decide +kernel
theorem dX11_valley_24 : decode cX11_valley 24 = .ok (.isub, 1) := by decide +kernel
theorem dX11_valley_25 : decode cX11_valley 25 = .ok (.istore_n 2, 1) := by decide +kernel
theorem dX11_valley_26 : decode cX11_valley 26 = .ok (.iinc 1 1, 3) := by decide +kernel
theorem dX11_valley_29 : decode cX11_valley 29 = .ok (.iload_n 2, 1) := by decide +kernel
theorem dX11_valley_30 : decode cX11_valley 30 = .ok (.bipush (-9), 2) := by decide +kernel
theorem dX11_valley_32 : decode cX11_valley 32 = .ok (.if_icmp .ne 14, 3) := by decide +kernel
theorem dX11_valley_35 : decode cX11_valley 35 = .ok (.aload_n 0, 1) := by decide +kernel
theorem dX11_valley_36 : decode cX11_valley 36 = .ok (.getfield 88, 3) := by decide +kernel
theorem dX11_valley_39 : decode cX11_valley 39 = .ok (.aload_n 0, 1) := by decide +kernel
theorem dX11_valley_40 : decode cX11_valley 40 = .ok (.getfield 84, 3) := by decide +kernel
theorem dX11_valley_43 : decode cX11_valley 43 = .ok (.if_icmp .lt (-33), 3) := by decide +kernel
theorem dX11_valley_46 : decode cX11_valley 46 = .ok (.aload_n 0, 1) := by decide +kernel
theorem dX11_valley_47 : decode cX11_valley 47 = .ok (.getfield 9, 3) := by decide +kernel
theorem dX11_valley_50 : decode cX11_valley 50 = .ok (.aload_n 0, 1) := by decide +kernel
theorem dX11_valley_51 : decode cX11_valley 51 = .ok (.getfield 19, 3) := by decide +kernel
theorem dX11_valley_54 : decode cX11_valley 54 = .ok (.invokestatic 125, 3) := by decide +kernel
theorem dX11_valley_57 : decode cX11_valley 57 = .ok (.aload_n 0, 1) := by decide +kernel
theorem dX11_valley_58 : decode cX11_valley 58 = .ok (.iconst 0, 1) := by decide +kernel
theorem dX11_valley_59 : decode cX11_valley 59 = .ok (.putfield 88, 3) := by decide +kernel
theorem dX11_valley_62 : decode cX11_valley 62 = .ok (.iload_n 2, 1) := by decide +kernel
theorem dX11_valley_63 : decode cX11_valley 63 = .ok (.bipush (-9), 2) := by decide +kernel
theorem dX11_valley_65 : decode cX11_valley 65 = .ok (.if_icmp .ne 63, 3) := by decide +kernel
theorem dX11_valley_68 : decode cX11_valley 68 = .ok (.aload_n 0, 1) := by decide +kernel
theorem dX11_valley_69 : decode cX11_valley 69 = .ok (.getfield 88, 3) := by decide +kernel
theorem dX11_valley_72 : decode cX11_valley 72 = .ok (.aload_n 0, 1) := by decide +kernel
theorem dX11_valley_73 : decode cX11_valley 73 = .ok (.getfield 84, 3) := by decide +kernel
theorem dX11_valley_76 : decode cX11_valley 76 = .ok (.if_icmp .ge 52, 3) := by decide +kernel
theorem dX11_valley_79 : decode cX11_valley 79 = .ok (.aload_n 0, 1) := by decide +kernel
theorem dX11_valley_80 : decode cX11_valley 80 = .ok (.getfield 88, 3) := by decide +kernel
theorem dX11_valley_83 : decode cX11_valley 83 = .ok (.istore_n 3, 1) := by decide +kernel
theorem dX11_valley_84 : decode cX11_valley 84 = .ok (.aload_n 0, 1) := by decide +kernel
theorem dX11_valley_85 : decode cX11_valley 85 = .ok (.invokevirtual 91, 3) := by decide +kernel
theorem dX11_valley_88 : decode cX11_valley 88 = .ok (.istore 4, 2) := by decide +kernel
theorem dX11_valley_90 : decode cX11_valley 90 = .ok (.aload_n 0, 1) := by decide +kernel
theorem dX11_valley_91 : decode cX11_valley 91 = .ok (.invokevirtual 122, 3) := by decide +kernel
theorem dX11_valley_94 : decode cX11_valley 94 = .ok (.istore 5, 2) := by decide +kernel
theorem dX11_valley_96 : decode cX11_valley 96 = .ok (.aload_n 0, 1) := by decide +kernel
theorem dX11_valley_97 : decode cX11_valley 97 = .ok (.iload 4, 2) := by decide +kernel
theorem dX11_valley_99 : decode cX11_valley 99 = .ok (.invokevirtual 129, 3) := by decide +kernel
theorem dX11_valley_102 : decode cX11_valley 102 = .ok (.ifCond .eq 6, 3) := by decide +kernel
theorem dX11_valley_105 : decode cX11_valley 105 = .ok (.goto (-43), 3) := by decide +kernel
theorem dX11_valley_108 : decode cX11_valley 108 = .ok (.sipush (-2000), 3) := by decide +kernel
theorem dX11_valley_111 : decode cX11_valley 111 = .ok (.iload_n 3, 1) := by decide +kernel
theorem dX11_valley_112 : decode cX11_valley 112 = .ok (.isub, 1) := by decide +kernel
theorem dX11_valley_113 : decode cX11_valley 113 = .ok (.istore_n 2, 1) := by decide +kernel
theorem dX11_valley_114 : decode cX11_valley 114 = .ok (.aload_n 0, 1) := by decide +kernel
theorem dX11_valley_115 : decode cX11_valley 115 = .ok (.getfield 19, 3) := by decide +kernel
theorem dX11_valley_118 : decode cX11_valley 118 = .ok (.aload_n 0, 1) := by decide +kernel
theorem dX11_valley_119 : decode cX11_valley 119 = .ok (.getfield 9, 3) := by decide +kernel
theorem dX11_valley_122 : decode cX11_valley 122 = .ok (.invokestatic 125, 3) := by decide +kernel
theorem dX11_valley_125 : decode cX11_valley 125 = .ok (.goto (-63), 3) := by decide +kernel
theorem dX11_valley_128 : decode cX11_valley 128 = .ok (.aload_n 0, 1) := by decide +kernel
theorem dX11_valley_129 : decode cX11_valley 129 = .ok (.iconst 0, 1) := by decide +kernel
theorem dX11_valley_130 : decode cX11_valley 130 = .ok (.putfield 84, 3) := by decide +kernel
theorem dX11_valley_133 : decode cX11_valley 133 = .ok (.iload_n 2, 1) := by decide +kernel
theorem dX11_valley_134 : decode cX11_valley 134 = .ok (.bipush (-9), 2) := by decide +kernel
theorem dX11_valley_136 : decode cX11_valley 136 = .ok (.if_icmp .ne 7, 3) := by decide +kernel
theorem dX11_valley_139 : decode cX11_valley 139 = .ok (.iload_n 1, 1) := by decide +kernel
theorem dX11_valley_140 : decode cX11_valley 140 = .ok (.goto 4, 3) := by decide +kernel
theorem dX11_valley_143 : decode cX11_valley 143 = .ok (.iload_n 2, 1) := by decide +kernel
theorem dX11_valley_144 : decode cX11_valley 144 = .ok (.ireturn, 1) := by decide +kernel
set_option maxRecDepth 20000 in
theorem ggX11_person_X11_isOne : GoodIn wsX11_person wsX11_isOne := goodIn_r _ [6, 1, 7, 8, 5, 9, 30, 31, 32, 33, 34, 35, 36, 37, 38, 39, 40, 41, 42] (by decide +kernel) (by decide +kernel)
set_option maxRecDepth 20000 in
theorem gX11_person_X11_isOne : GoodIn wsX11_person (wsV RX11 44 RX11 yX11_isOne wsX11_isOne) := goodIn_app (goodIn_of _ (by decide +kernel)) ggX11_person_X11_isOne
set_option maxRecDepth 20000 in
theorem ggX11_person_X11_no : GoodIn wsX11_person wsX11_no := goodIn_r _ [13, 14, 30, 31, 32, 33, 34, 35, 36, 37, 38, 39, 40, 41, 42] (by decide +kernel) (by decide +kernel)
set_option maxRecDepth 20000 in
theorem gX11_person_X11_no : GoodIn wsX11_person (wsV RX11 36 RX11 yX11_no wsX11_no) := goodIn_app (goodIn_of _ (by decide +kernel)) ggX11_person_X11_no
set_option maxRecDepth 20000 in
theorem ggX11_person_X11_isIn : GoodIn wsX11_person wsX11_isIn := goodIn_r _ [9] (by decide +kernel) (by decide +kernel)
set_option maxRecDepth 20000 in
theorem gX11_person_X11_isIn : GoodIn wsX11_person (va_wsS RX11 40 yX11_isIn wsX11_isIn) := goodIn_app (goodIn_of _ (by decide +kernel)) ggX11_person_X11_isIn
set_option maxRecDepth 20000 in
theorem ggX11_person_X11_of : GoodIn wsX11_person wsX11_of := goodIn_r _ [17] (by decide +kernel) (by decide +kernel)
set_option maxRecDepth 20000 in
theorem gX11_person_X11_of : GoodIn wsX11_person (va_wsS RX11 48 yX11_of wsX11_of) := goodIn_app (goodIn_of _ (by decide +kernel)) ggX11_person_X11_of
set_option maxRecDepth 20000 in
theorem ggX11_person_X11_knownIn : GoodIn wsX11_person wsX11_knownIn := goodIn_r _ [20, 21, 22, 5, 23, 15, 16, 17, 24, 25, 26] (by decide +kernel) (by decide +kernel)
set_option maxRecDepth 20000 in
theorem gX11_person_X11_knownIn : GoodIn wsX11_person (va_wsS RX11 62 yX11_knownIn wsX11_knownIn) := goodIn_app (goodIn_of _ (by decide +kernel)) ggX11_person_X11_knownIn
set_option maxRecDepth 20000 in
theorem ggX11_person_X11_mayBeNamed : GoodIn wsX11_person wsX11_mayBeNamed := goodIn_r _ [29, 15, 16, 5, 17] (by decide +kernel) (by decide +kernel)
set_option maxRecDepth 20000 in
theorem gX11_person_X11_mayBeNamed : GoodIn wsX11_person (va_wsS RX11 59 yX11_mayBeNamed wsX11_mayBeNamed) := goodIn_app (goodIn_of _ (by decide +kernel)) ggX11_person_X11_mayBeNamed
theorem dX11_person_0 : decode cX11_person 0 = .ok (.aload_n 0, 1) := by decide +kernel
theorem dX11_person_1 : decode cX11_person 1 = .ok (.iload_n 1, 1) := by decide +kernel
theorem dX11_person_2 : decode cX11_person 2 = .ok (.invokevirtual 44, 3) := by decide +kernel
theorem dX11_person_5 : decode cX11_person 5 = .ok (.ifCond .ne 9, 3) := by decide +kernel
theorem dX11_person_8 : decode cX11_person 8 = .ok (.aload_n 0, 1) := by decide +kernel
theorem dX11_person_9 : decode cX11_person 9 = .ok (.iconst (-1), 1) := by decide +kernel
theorem dX11_person_10 : decode cX11_person 10 = .ok (.invokevirtual 36, 3) := by decide +kernel
theorem dX11_person_13 : decode cX11_person 13 = .ok (.ireturn, 1) := by decide +kernel
theorem dX11_person_14 : decode cX11_person 14 = .ok (.iload_n 2, 1) := by decide +kernel
theorem dX11_person_15 : decode cX11_person 15 = .ok (.iconst 0, 1) := by decide +kernel
theorem dX11_person_16 : decode cX11_person 16 = .ok (.iconst 3, 1) := by decide +kernel
theorem dX11_person_17 : decode cX11_person 17 = .ok (.invokestatic 40, 3) := by decide +kernel
theorem dX11_person_20 : decode cX11_person 20 = .ok (.ifCond .eq 14, 3) := by decide +kernel
theorem dX11_person_23 : decode cX11_person 23 = .ok (.aload_n 0, 1) := by decide +kernel
theorem dX11_person_24 : decode cX11_person 24 = .ok (.getfield 9, 3) := by decide +kernel
theorem dX11_person_27 : decode cX11_person 27 = .ok (.iload_n 1, 1) := by decide +kernel
theorem dX11_person_28 : decode cX11_person 28 = .ok (.iload_n 2, 1) := by decide +kernel
theorem dX11_person_29 : decode cX11_person 29 = .ok (.invokestatic 48, 3) := by decide +kernel
theorem dX11_person_32 : decode cX11_person 32 = .ok (.iaload, 1) := by decide +kernel
theorem dX11_person_33 : decode cX11_person 33 = .ok (.ireturn, 1) := by decide +kernel
theorem dX11_person_34 : decode cX11_person 34 = .ok (.iload_n 2, 1) := by decide +kernel
theorem dX11_person_35 : decode cX11_person 35 = .ok (.iconst 4, 1) := by decide +kernel
theorem dX11_person_36 : decode cX11_person 36 = .ok (.if_icmp .ne 14, 3) := by decide +kernel
theorem dX11_person_39 : decode cX11_person 39 = .ok (.aload_n 0, 1) := by decide +kernel
theorem dX11_person_40 : decode cX11_person 40 = .ok (.getfield 9, 3) := by decide +kernel
theorem dX11_person_43 : decode cX11_person 43 = .ok (.iload_n 1, 1) := by decide +kernel
theorem dX11_person_44 : decode cX11_person 44 = .ok (.invokestatic 62, 3) := by decide +kernel
theorem dX11_person_47 : decode cX11_person 47 = .ok (.goto 33, 3) := by decide +kernel
theorem dX11_person_50 : decode cX11_person 50 = .ok (.iload_n 2, 1) := by decide +kernel
theorem dX11_person_51 : decode cX11_person 51 = .ok (.iconst 5, 1) := by decide +kernel
theorem dX11_person_52 : decode cX11_person 52 = .ok (.if_icmp .eq 12, 3) := by decide +kernel
theorem dX11_person_55 : decode cX11_person 55 = .ok (.aload_n 0, 1) := by decide +kernel
theorem dX11_person_56 : decode cX11_person 56 = .ok (.bipush (-2), 2) := by decide +kernel
theorem dX11_person_58 : decode cX11_person 58 = .ok (.invokevirtual 36, 3) := by decide +kernel
theorem dX11_person_61 : decode cX11_person 61 = .ok (.goto 19, 3) := by decide +kernel
theorem dX11_person_64 : decode cX11_person 64 = .ok (.aload_n 0, 1) := by decide +kernel
theorem dX11_person_65 : decode cX11_person 65 = .ok (.getfield 9, 3) := by decide +kernel
theorem dX11_person_68 : decode cX11_person 68 = .ok (.iload_n 1, 1) := by decide +kernel
theorem dX11_person_69 : decode cX11_person 69 = .ok (.invokestatic 59, 3) := by decide +kernel
theorem dX11_person_72 : decode cX11_person 72 = .ok (.ifCond .eq 7, 3) := by decide +kernel
theorem dX11_person_75 : decode cX11_person 75 = .ok (.iconst 1, 1) := by decide +kernel
theorem dX11_person_76 : decode cX11_person 76 = .ok (.goto 4, 3) := by decide +kernel
theorem dX11_person_79 : decode cX11_person 79 = .ok (.iconst 0, 1) := by decide +kernel
theorem dX11_person_80 : decode cX11_person 80 = .ok (.ireturn, 1) := by decide +kernel
set_option maxRecDepth 20000 in
theorem ggX11_memory_X11_areTwo : GoodIn wsX11_memory wsX11_areTwo := goodIn_r _ [6, 7, 8, 9, 5, 10, 1, 11, 12, 13, 22, 23, 24, 25, 26, 27, 28, 29, 30, 31, 32, 33, 34] (by decide +kernel) (by decide +kernel)
set_option maxRecDepth 20000 in
theorem gX11_memory_X11_areTwo : GoodIn wsX11_memory (wsV RX11 109 RX11 yX11_areTwo wsX11_areTwo) := goodIn_app (goodIn_of _ (by decide +kernel)) ggX11_memory_X11_areTwo
set_option maxRecDepth 20000 in
theorem ggX11_memory_X11_by : GoodIn wsX11_memory wsX11_by := goodIn_r _ [16] (by decide +kernel) (by decide +kernel)
set_option maxRecDepth 20000 in
theorem gX11_memory_X11_by : GoodIn wsX11_memory (va_wsS RX11 56 yX11_by wsX11_by) := goodIn_app (goodIn_of _ (by decide +kernel)) ggX11_memory_X11_by
set_option maxRecDepth 20000 in
theorem ggX11_memory_X11_no : GoodIn wsX11_memory wsX11_no := goodIn_r _ [20, 21, 22, 23, 24, 25, 26, 27, 28, 29, 30, 31, 32, 33, 34] (by decide +kernel) (by decide +kernel)
set_option maxRecDepth 20000 in
theorem gX11_memory_X11_no : GoodIn wsX11_memory (wsV RX11 36 RX11 yX11_no wsX11_no) := goodIn_app (goodIn_of _ (by decide +kernel)) ggX11_memory_X11_no
theorem dX11_memory_0 : decode cX11_memory 0 = .ok (.aload_n 0, 1) := by decide +kernel
theorem dX11_memory_1 : decode cX11_memory 1 = .ok (.iload_n 1, 1) := by decide +kernel
theorem dX11_memory_2 : decode cX11_memory 2 = .ok (.iload_n 2, 1) := by decide +kernel
theorem dX11_memory_3 : decode cX11_memory 3 = .ok (.invokevirtual 109, 3) := by decide +kernel
theorem dX11_memory_6 : decode cX11_memory 6 = .ok (.ifCond .eq 16, 3) := by decide +kernel
theorem dX11_memory_9 : decode cX11_memory 9 = .ok (.aload_n 0, 1) := by decide +kernel
theorem dX11_memory_10 : decode cX11_memory 10 = .ok (.getfield 9, 3) := by decide +kernel
theorem dX11_memory_13 : decode cX11_memory 13 = .ok (.iload_n 1, 1) := by decide +kernel
theorem dX11_memory_14 : decode cX11_memory 14 = .ok (.iload_n 2, 1) := by decide +kernel
theorem dX11_memory_15 : decode cX11_memory 15 = .ok (.invokestatic 56, 3) := by decide +kernel
theorem dX11_memory_18 : decode cX11_memory 18 = .ok (.iaload, 1) := by decide +kernel
theorem dX11_memory_19 : decode cX11_memory 19 = .ok (.goto 8, 3) := by decide +kernel
theorem dX11_memory_22 : decode cX11_memory 22 = .ok (.aload_n 0, 1) := by decide +kernel
theorem dX11_memory_23 : decode cX11_memory 23 = .ok (.iconst (-1), 1) := by decide +kernel
theorem dX11_memory_24 : decode cX11_memory 24 = .ok (.invokevirtual 36, 3) := by decide +kernel
theorem dX11_memory_27 : decode cX11_memory 27 = .ok (.ireturn, 1) := by decide +kernel
theorem dX11_wrongBy_0 : decode cX11_wrongBy 0 = .ok (.iload_n 0, 1) := by decide +kernel
theorem dX11_wrongBy_1 : decode cX11_wrongBy 1 = .ok (.iload_n 1, 1) := by decide +kernel
theorem dX11_wrongBy_2 : decode cX11_wrongBy 2 = .ok (.if_icmp .ge 8, 3) := by decide +kernel
theorem dX11_wrongBy_5 : decode cX11_wrongBy 5 = .ok (.bipush (-4), 2) := by decide +kernel
theorem dX11_wrongBy_7 : decode cX11_wrongBy 7 = .ok (.goto 14, 3) := by decide +kernel
theorem dX11_wrongBy_10 : decode cX11_wrongBy 10 = .ok (.iload_n 0, 1) := by decide +kernel
theorem dX11_wrongBy_11 : decode cX11_wrongBy 11 = .ok (.iload_n 2, 1) := by decide +kernel
theorem dX11_wrongBy_12 : decode cX11_wrongBy 12 = .ok (.if_icmp .le 8, 3) := by decide +kernel
theorem dX11_wrongBy_15 : decode cX11_wrongBy 15 = .ok (.bipush (-6), 2) := by decide +kernel
theorem dX11_wrongBy_17 : decode cX11_wrongBy 17 = .ok (.goto 4, 3) := by decide +kernel
theorem dX11_wrongBy_20 : decode cX11_wrongBy 20 = .ok (.iconst 0, 1) := by decide +kernel
theorem dX11_wrongBy_21 : decode cX11_wrongBy 21 = .ok (.ireturn, 1) := by decide +kernel
set_option maxRecDepth 20000 in
theorem ggX11_recalls_X11_areTwo : GoodIn wsX11_recalls wsX11_areTwo := goodIn_r _ [6, 7, 8, 9, 5, 10, 1, 11, 12, 13, 25, 26, 27, 28, 29, 30, 31, 32, 33, 34, 35, 36, 37] (by decide +kernel) (by decide +kernel)
set_option maxRecDepth 20000 in
theorem gX11_recalls_X11_areTwo : GoodIn wsX11_recalls (wsV RX11 109 RX11 yX11_areTwo wsX11_areTwo) := goodIn_app (goodIn_of _ (by decide +kernel)) ggX11_recalls_X11_areTwo
set_option maxRecDepth 20000 in
theorem ggX11_recalls_X11_wrongBy : GoodIn wsX11_recalls wsX11_wrongBy := goodIn_r _ [16] (by decide +kernel) (by decide +kernel)
set_option maxRecDepth 20000 in
theorem gX11_recalls_X11_wrongBy : GoodIn wsX11_recalls (va_wsS RX11 132 yX11_wrongBy wsX11_wrongBy) := goodIn_app (goodIn_of _ (by decide +kernel)) ggX11_recalls_X11_wrongBy
set_option maxRecDepth 20000 in
theorem ggX11_recalls_X11_no : GoodIn wsX11_recalls wsX11_no := goodIn_r _ [20, 21, 25, 26, 27, 28, 29, 30, 31, 32, 33, 34, 35, 36, 37] (by decide +kernel) (by decide +kernel)
set_option maxRecDepth 20000 in
theorem gX11_recalls_X11_no : GoodIn wsX11_recalls (wsV RX11 36 RX11 yX11_no wsX11_no) := goodIn_app (goodIn_of _ (by decide +kernel)) ggX11_recalls_X11_no
set_option maxRecDepth 20000 in
theorem ggX11_recalls_X11_by : GoodIn wsX11_recalls wsX11_by := goodIn_r _ [24] (by decide +kernel) (by decide +kernel)
set_option maxRecDepth 20000 in
theorem gX11_recalls_X11_by : GoodIn wsX11_recalls (va_wsS RX11 56 yX11_by wsX11_by) := goodIn_app (goodIn_of _ (by decide +kernel)) ggX11_recalls_X11_by
theorem dX11_recalls_0 : decode cX11_recalls 0 = .ok (.aload_n 0, 1) := by decide +kernel
theorem dX11_recalls_1 : decode cX11_recalls 1 = .ok (.iload_n 1, 1) := by decide +kernel
theorem dX11_recalls_2 : decode cX11_recalls 2 = .ok (.iload_n 2, 1) := by decide +kernel
theorem dX11_recalls_3 : decode cX11_recalls 3 = .ok (.invokevirtual 109, 3) := by decide +kernel
theorem dX11_recalls_6 : decode cX11_recalls 6 = .ok (.ifCond .eq 13, 3) := by decide +kernel
theorem dX11_recalls_9 : decode cX11_recalls 9 = .ok (.iload_n 3, 1) := by decide +kernel
theorem dX11_recalls_10 : decode cX11_recalls 10 = .ok (.iconst 0, 1) := by decide +kernel
theorem dX11_recalls_11 : decode cX11_recalls 11 = .ok (.bipush 99, 2) := by decide +kernel
theorem dX11_recalls_13 : decode cX11_recalls 13 = .ok (.invokestatic 132, 3) := by decide +kernel
theorem dX11_recalls_16 : decode cX11_recalls 16 = .ok (.goto 4, 3) := by decide +kernel
theorem dX11_recalls_19 : decode cX11_recalls 19 = .ok (.iconst (-1), 1) := by decide +kernel
theorem dX11_recalls_20 : decode cX11_recalls 20 = .ok (.istore 4, 2) := by decide +kernel
theorem dX11_recalls_22 : decode cX11_recalls 22 = .ok (.iload 4, 2) := by decide +kernel
theorem dX11_recalls_24 : decode cX11_recalls 24 = .ok (.ifCond .eq 10, 3) := by decide +kernel
theorem dX11_recalls_27 : decode cX11_recalls 27 = .ok (.aload_n 0, 1) := by decide +kernel
theorem dX11_recalls_28 : decode cX11_recalls 28 = .ok (.iload 4, 2) := by decide +kernel
theorem dX11_recalls_30 : decode cX11_recalls 30 = .ok (.invokevirtual 36, 3) := by decide +kernel
theorem dX11_recalls_33 : decode cX11_recalls 33 = .ok (.ireturn, 1) := by decide +kernel
theorem dX11_recalls_34 : decode cX11_recalls 34 = .ok (.aload_n 0, 1) := by decide +kernel
theorem dX11_recalls_35 : decode cX11_recalls 35 = .ok (.getfield 9, 3) := by decide +kernel
theorem dX11_recalls_38 : decode cX11_recalls 38 = .ok (.iload_n 1, 1) := by decide +kernel
theorem dX11_recalls_39 : decode cX11_recalls 39 = .ok (.iload_n 2, 1) := by decide +kernel
theorem dX11_recalls_40 : decode cX11_recalls 40 = .ok (.invokestatic 56, 3) := by decide +kernel
theorem dX11_recalls_43 : decode cX11_recalls 43 = .ok (.iaload, 1) := by decide +kernel
theorem dX11_recalls_44 : decode cX11_recalls 44 = .ok (.istore 5, 2) := by decide +kernel
theorem dX11_recalls_46 : decode cX11_recalls 46 = .ok (.aload_n 0, 1) := by decide +kernel
theorem dX11_recalls_47 : decode cX11_recalls 47 = .ok (.getfield 9, 3) := by decide +kernel
theorem dX11_recalls_50 : decode cX11_recalls 50 = .ok (.iload_n 1, 1) := by decide +kernel
theorem dX11_recalls_51 : decode cX11_recalls 51 = .ok (.iload_n 2, 1) := by decide +kernel
theorem dX11_recalls_52 : decode cX11_recalls 52 = .ok (.invokestatic 56, 3) := by decide +kernel
theorem dX11_recalls_55 : decode cX11_recalls 55 = .ok (.iload_n 3, 1) := by decide +kernel
theorem dX11_recalls_56 : decode cX11_recalls 56 = .ok (.iastore, 1) := by decide +kernel
theorem dX11_recalls_57 : decode cX11_recalls 57 = .ok (.iload 5, 2) := by decide +kernel
theorem dX11_recalls_59 : decode cX11_recalls 59 = .ok (.ireturn, 1) := by decide +kernel
set_option maxRecDepth 20000 in
theorem ggX11_speaks_X11_areTwo : GoodIn wsX11_speaks wsX11_areTwo := goodIn_r _ [6, 7, 8, 9, 5, 10, 1, 11, 12, 13, 34, 35, 36, 37, 38, 39, 40, 41, 42, 43, 44, 45, 46] (by decide +kernel) (by decide +kernel)
set_option maxRecDepth 20000 in
theorem gX11_speaks_X11_areTwo : GoodIn wsX11_speaks (wsV RX11 109 RX11 yX11_areTwo wsX11_areTwo) := goodIn_app (goodIn_of _ (by decide +kernel)) ggX11_speaks_X11_areTwo
set_option maxRecDepth 20000 in
theorem ggX11_speaks_X11_no : GoodIn wsX11_speaks wsX11_no := goodIn_r _ [17, 18, 34, 35, 36, 37, 38, 39, 40, 41, 42, 43, 44, 45, 46] (by decide +kernel) (by decide +kernel)
set_option maxRecDepth 20000 in
theorem gX11_speaks_X11_no : GoodIn wsX11_speaks (wsV RX11 36 RX11 yX11_no wsX11_no) := goodIn_app (goodIn_of _ (by decide +kernel)) ggX11_speaks_X11_no
set_option maxRecDepth 20000 in
theorem ggX11_speaks_X11_isHere : GoodIn wsX11_speaks wsX11_isHere := goodIn_r _ [21, 22, 23, 5, 24] (by decide +kernel) (by decide +kernel)
set_option maxRecDepth 20000 in
theorem gX11_speaks_X11_isHere : GoodIn wsX11_speaks (va_wsS RX11 52 yX11_isHere wsX11_isHere) := goodIn_app (goodIn_of _ (by decide +kernel)) ggX11_speaks_X11_isHere
set_option maxRecDepth 20000 in
theorem ggX11_speaks_X11_speaksIn : GoodIn wsX11_speaks wsX11_speaksIn := goodIn_r _ [27, 28, 29, 5, 30, 31, 32, 33] (by decide +kernel) (by decide +kernel)
set_option maxRecDepth 20000 in
theorem gX11_speaks_X11_speaksIn : GoodIn wsX11_speaks (va_wsS RX11 112 yX11_speaksIn wsX11_speaksIn) := goodIn_app (goodIn_of _ (by decide +kernel)) ggX11_speaks_X11_speaksIn
set_option maxRecDepth 20000 in
theorem ggX11_speaks_X11_by : GoodIn wsX11_speaks wsX11_by := goodIn_r _ [30] (by decide +kernel) (by decide +kernel)
set_option maxRecDepth 20000 in
theorem gX11_speaks_X11_by : GoodIn wsX11_speaks (va_wsS RX11 56 yX11_by wsX11_by) := goodIn_app (goodIn_of _ (by decide +kernel)) ggX11_speaks_X11_by
theorem dX11_speaks_0 : decode cX11_speaks 0 = .ok (.aload_n 0, 1) := by decide +kernel
theorem dX11_speaks_1 : decode cX11_speaks 1 = .ok (.iload_n 1, 1) := by decide +kernel
theorem dX11_speaks_2 : decode cX11_speaks 2 = .ok (.iload_n 2, 1) := by decide +kernel
theorem dX11_speaks_3 : decode cX11_speaks 3 = .ok (.invokevirtual 109, 3) := by decide +kernel
theorem dX11_speaks_6 : decode cX11_speaks 6 = .ok (.ifCond .ne 9, 3) := by decide +kernel
theorem dX11_speaks_9 : decode cX11_speaks 9 = .ok (.aload_n 0, 1) := by decide +kernel
theorem dX11_speaks_10 : decode cX11_speaks 10 = .ok (.iconst (-1), 1) := by decide +kernel
theorem dX11_speaks_11 : decode cX11_speaks 11 = .ok (.invokevirtual 36, 3) := by decide +kernel
theorem dX11_speaks_14 : decode cX11_speaks 14 = .ok (.ireturn, 1) := by decide +kernel
theorem dX11_speaks_15 : decode cX11_speaks 15 = .ok (.aload_n 0, 1) := by decide +kernel
theorem dX11_speaks_16 : decode cX11_speaks 16 = .ok (.getfield 9, 3) := by decide +kernel
theorem dX11_speaks_19 : decode cX11_speaks 19 = .ok (.iload_n 1, 1) := by decide +kernel
theorem dX11_speaks_20 : decode cX11_speaks 20 = .ok (.invokestatic 52, 3) := by decide +kernel
theorem dX11_speaks_23 : decode cX11_speaks 23 = .ok (.ifCond .eq 14, 3) := by decide +kernel
theorem dX11_speaks_26 : decode cX11_speaks 26 = .ok (.aload_n 0, 1) := by decide +kernel
theorem dX11_speaks_27 : decode cX11_speaks 27 = .ok (.getfield 9, 3) := by decide +kernel
theorem dX11_speaks_30 : decode cX11_speaks 30 = .ok (.iload_n 2, 1) := by decide +kernel
theorem dX11_speaks_31 : decode cX11_speaks 31 = .ok (.invokestatic 52, 3) := by decide +kernel
theorem dX11_speaks_34 : decode cX11_speaks 34 = .ok (.ifCond .ne 10, 3) := by decide +kernel
theorem dX11_speaks_37 : decode cX11_speaks 37 = .ok (.aload_n 0, 1) := by decide +kernel
theorem dX11_speaks_38 : decode cX11_speaks 38 = .ok (.bipush (-3), 2) := by decide +kernel
theorem dX11_speaks_40 : decode cX11_speaks 40 = .ok (.invokevirtual 36, 3) := by decide +kernel
theorem dX11_speaks_43 : decode cX11_speaks 43 = .ok (.ireturn, 1) := by decide +kernel
theorem dX11_speaks_44 : decode cX11_speaks 44 = .ok (.aload_n 0, 1) := by decide +kernel
theorem dX11_speaks_45 : decode cX11_speaks 45 = .ok (.getfield 9, 3) := by decide +kernel
theorem dX11_speaks_48 : decode cX11_speaks 48 = .ok (.iload_n 1, 1) := by decide +kernel
theorem dX11_speaks_49 : decode cX11_speaks 49 = .ok (.iload_n 2, 1) := by decide +kernel
theorem dX11_speaks_50 : decode cX11_speaks 50 = .ok (.invokestatic 112, 3) := by decide +kernel
theorem dX11_speaks_53 : decode cX11_speaks 53 = .ok (.aload_n 0, 1) := by decide +kernel
theorem dX11_speaks_54 : decode cX11_speaks 54 = .ok (.getfield 9, 3) := by decide +kernel
theorem dX11_speaks_57 : decode cX11_speaks 57 = .ok (.iload_n 1, 1) := by decide +kernel
theorem dX11_speaks_58 : decode cX11_speaks 58 = .ok (.iload_n 2, 1) := by decide +kernel
theorem dX11_speaks_59 : decode cX11_speaks 59 = .ok (.invokestatic 56, 3) := by decide +kernel
theorem dX11_speaks_62 : decode cX11_speaks 62 = .ok (.iaload, 1) := by decide +kernel
theorem dX11_speaks_63 : decode cX11_speaks 63 = .ok (.aload_n 0, 1) := by decide +kernel
theorem dX11_speaks_64 : decode cX11_speaks 64 = .ok (.getfield 9, 3) := by decide +kernel
theorem dX11_speaks_67 : decode cX11_speaks 67 = .ok (.iload_n 2, 1) := by decide +kernel
theorem dX11_speaks_68 : decode cX11_speaks 68 = .ok (.iload_n 1, 1) := by decide +kernel
theorem dX11_speaks_69 : decode cX11_speaks 69 = .ok (.invokestatic 56, 3) := by decide +kernel
theorem dX11_speaks_72 : decode cX11_speaks 72 = .ok (.iaload, 1) := by decide +kernel
theorem dX11_speaks_73 : decode cX11_speaks 73 = .ok (.iadd, 1) := by decide +kernel
theorem dX11_speaks_74 : decode cX11_speaks 74 = .ok (.ireturn, 1) := by decide +kernel
set_option maxRecDepth 20000 in
theorem ggX11_owes_X11_isOne : GoodIn wsX11_owes wsX11_isOne := goodIn_r _ [6, 1, 7, 8, 5, 9, 21, 22, 23, 24, 25, 26, 27, 28, 29, 30, 31, 32, 33] (by decide +kernel) (by decide +kernel)
set_option maxRecDepth 20000 in
theorem gX11_owes_X11_isOne : GoodIn wsX11_owes (wsV RX11 44 RX11 yX11_isOne wsX11_isOne) := goodIn_app (goodIn_of _ (by decide +kernel)) ggX11_owes_X11_isOne
set_option maxRecDepth 20000 in
theorem ggX11_owes_X11_wrongBy : GoodIn wsX11_owes wsX11_wrongBy := goodIn_r _ [12] (by decide +kernel) (by decide +kernel)
set_option maxRecDepth 20000 in
theorem gX11_owes_X11_wrongBy : GoodIn wsX11_owes (va_wsS RX11 132 yX11_wrongBy wsX11_wrongBy) := goodIn_app (goodIn_of _ (by decide +kernel)) ggX11_owes_X11_wrongBy
set_option maxRecDepth 20000 in
theorem ggX11_owes_X11_no : GoodIn wsX11_owes wsX11_no := goodIn_r _ [16, 17, 21, 22, 23, 24, 25, 26, 27, 28, 29, 30, 31, 32, 33] (by decide +kernel) (by decide +kernel)
set_option maxRecDepth 20000 in
theorem gX11_owes_X11_no : GoodIn wsX11_owes (wsV RX11 36 RX11 yX11_no wsX11_no) := goodIn_app (goodIn_of _ (by decide +kernel)) ggX11_owes_X11_no
set_option maxRecDepth 20000 in
theorem ggX11_owes_X11_of : GoodIn wsX11_owes wsX11_of := goodIn_r _ [20] (by decide +kernel) (by decide +kernel)
set_option maxRecDepth 20000 in
theorem gX11_owes_X11_of : GoodIn wsX11_owes (va_wsS RX11 48 yX11_of wsX11_of) := goodIn_app (goodIn_of _ (by decide +kernel)) ggX11_owes_X11_of
theorem dX11_owes_0 : decode cX11_owes 0 = .ok (.aload_n 0, 1) := by decide +kernel
theorem dX11_owes_1 : decode cX11_owes 1 = .ok (.iload_n 1, 1) := by decide +kernel
theorem dX11_owes_2 : decode cX11_owes 2 = .ok (.invokevirtual 44, 3) := by decide +kernel
theorem dX11_owes_5 : decode cX11_owes 5 = .ok (.ifCond .eq 13, 3) := by decide +kernel
theorem dX11_owes_8 : decode cX11_owes 8 = .ok (.iload_n 2, 1) := by decide +kernel
theorem dX11_owes_9 : decode cX11_owes 9 = .ok (.iconst 0, 1) := by decide +kernel
theorem dX11_owes_10 : decode cX11_owes 10 = .ok (.bipush 99, 2) := by decide +kernel
theorem dX11_owes_12 : decode cX11_owes 12 = .ok (.invokestatic 132, 3) := by decide +kernel
theorem dX11_owes_15 : decode cX11_owes 15 = .ok (.goto 4, 3) := by decide +kernel
theorem dX11_owes_18 : decode cX11_owes 18 = .ok (.iconst (-1), 1) := by decide +kernel
theorem dX11_owes_19 : decode cX11_owes 19 = .ok (.istore_n 3, 1) := by decide +kernel
theorem dX11_owes_20 : decode cX11_owes 20 = .ok (.iload_n 3, 1) := by decide +kernel
theorem dX11_owes_21 : decode cX11_owes 21 = .ok (.ifCond .eq 9, 3) := by decide +kernel
theorem dX11_owes_24 : decode cX11_owes 24 = .ok (.aload_n 0, 1) := by decide +kernel
theorem dX11_owes_25 : decode cX11_owes 25 = .ok (.iload_n 3, 1) := by decide +kernel
theorem dX11_owes_26 : decode cX11_owes 26 = .ok (.invokevirtual 36, 3) := by decide +kernel
theorem dX11_owes_29 : decode cX11_owes 29 = .ok (.ireturn, 1) := by decide +kernel
theorem dX11_owes_30 : decode cX11_owes 30 = .ok (.aload_n 0, 1) := by decide +kernel
theorem dX11_owes_31 : decode cX11_owes 31 = .ok (.getfield 9, 3) := by decide +kernel
theorem dX11_owes_34 : decode cX11_owes 34 = .ok (.iload_n 1, 1) := by decide +kernel
theorem dX11_owes_35 : decode cX11_owes 35 = .ok (.iconst 3, 1) := by decide +kernel
theorem dX11_owes_36 : decode cX11_owes 36 = .ok (.invokestatic 48, 3) := by decide +kernel
theorem dX11_owes_39 : decode cX11_owes 39 = .ok (.iaload, 1) := by decide +kernel
theorem dX11_owes_40 : decode cX11_owes 40 = .ok (.istore 4, 2) := by decide +kernel
theorem dX11_owes_42 : decode cX11_owes 42 = .ok (.aload_n 0, 1) := by decide +kernel
theorem dX11_owes_43 : decode cX11_owes 43 = .ok (.getfield 9, 3) := by decide +kernel
theorem dX11_owes_46 : decode cX11_owes 46 = .ok (.iload_n 1, 1) := by decide +kernel
theorem dX11_owes_47 : decode cX11_owes 47 = .ok (.iconst 3, 1) := by decide +kernel
theorem dX11_owes_48 : decode cX11_owes 48 = .ok (.invokestatic 48, 3) := by decide +kernel
theorem dX11_owes_51 : decode cX11_owes 51 = .ok (.iload_n 2, 1) := by decide +kernel
theorem dX11_owes_52 : decode cX11_owes 52 = .ok (.iastore, 1) := by decide +kernel
theorem dX11_owes_53 : decode cX11_owes 53 = .ok (.iload 4, 2) := by decide +kernel
theorem dX11_owes_55 : decode cX11_owes 55 = .ok (.ireturn, 1) := by decide +kernel
set_option maxRecDepth 20000 in
theorem ggX11_back_X11_isOne : GoodIn wsX11_back wsX11_isOne := goodIn_r _ [6, 1, 7, 8, 5, 9, 33, 34, 35, 36, 37, 38, 39, 40, 41, 42, 43, 44, 45] (by decide +kernel) (by decide +kernel)
set_option maxRecDepth 20000 in
theorem gX11_back_X11_isOne : GoodIn wsX11_back (wsV RX11 44 RX11 yX11_isOne wsX11_isOne) := goodIn_app (goodIn_of _ (by decide +kernel)) ggX11_back_X11_isOne
set_option maxRecDepth 20000 in
theorem ggX11_back_X11_no : GoodIn wsX11_back wsX11_no := goodIn_r _ [13, 14, 33, 34, 35, 36, 37, 38, 39, 40, 41, 42, 43, 44, 45] (by decide +kernel) (by decide +kernel)
set_option maxRecDepth 20000 in
theorem gX11_back_X11_no : GoodIn wsX11_back (wsV RX11 36 RX11 yX11_no wsX11_no) := goodIn_app (goodIn_of _ (by decide +kernel)) ggX11_back_X11_no
set_option maxRecDepth 20000 in
theorem ggX11_back_X11_isHere : GoodIn wsX11_back wsX11_isHere := goodIn_r _ [17, 18, 19, 5, 20] (by decide +kernel) (by decide +kernel)
set_option maxRecDepth 20000 in
theorem gX11_back_X11_isHere : GoodIn wsX11_back (va_wsS RX11 52 yX11_isHere wsX11_isHere) := goodIn_app (goodIn_of _ (by decide +kernel)) ggX11_back_X11_isHere
set_option maxRecDepth 20000 in
theorem ggX11_back_X11_comesBack : GoodIn wsX11_back wsX11_comesBack := goodIn_r _ [23, 15, 16, 5, 17, 18, 19, 20, 24, 25, 26] (by decide +kernel) (by decide +kernel)
set_option maxRecDepth 20000 in
theorem gX11_back_X11_comesBack : GoodIn wsX11_back (va_wsS RX11 116 yX11_comesBack wsX11_comesBack) := goodIn_app (goodIn_of _ (by decide +kernel)) ggX11_back_X11_comesBack
set_option maxRecDepth 20000 in
theorem ggX11_back_X11_hereIn : GoodIn wsX11_back wsX11_hereIn := goodIn_r _ [29, 18, 19, 5, 20] (by decide +kernel) (by decide +kernel)
set_option maxRecDepth 20000 in
theorem gX11_back_X11_hereIn : GoodIn wsX11_back (va_wsS RX11 136 yX11_hereIn wsX11_hereIn) := goodIn_app (goodIn_of _ (by decide +kernel)) ggX11_back_X11_hereIn
set_option maxRecDepth 20000 in
theorem ggX11_back_X11_bits : GoodIn wsX11_back wsX11_bits := goodIn_r _ [32] (by decide +kernel) (by decide +kernel)
set_option maxRecDepth 20000 in
theorem gX11_back_X11_bits : GoodIn wsX11_back (va_wsS RX11 139 yX11_bits wsX11_bits) := goodIn_app (goodIn_of _ (by decide +kernel)) ggX11_back_X11_bits
theorem dX11_back_0 : decode cX11_back 0 = .ok (.aload_n 0, 1) := by decide +kernel
theorem dX11_back_1 : decode cX11_back 1 = .ok (.iload_n 1, 1) := by decide +kernel
theorem dX11_back_2 : decode cX11_back 2 = .ok (.invokevirtual 44, 3) := by decide +kernel
theorem dX11_back_5 : decode cX11_back 5 = .ok (.ifCond .ne 9, 3) := by decide +kernel
theorem dX11_back_8 : decode cX11_back 8 = .ok (.aload_n 0, 1) := by decide +kernel
theorem dX11_back_9 : decode cX11_back 9 = .ok (.iconst (-1), 1) := by decide +kernel
theorem dX11_back_10 : decode cX11_back 10 = .ok (.invokevirtual 36, 3) := by decide +kernel
theorem dX11_back_13 : decode cX11_back 13 = .ok (.ireturn, 1) := by decide +kernel
theorem dX11_back_14 : decode cX11_back 14 = .ok (.aload_n 0, 1) := by decide +kernel
theorem dX11_back_15 : decode cX11_back 15 = .ok (.getfield 9, 3) := by decide +kernel
theorem dX11_back_18 : decode cX11_back 18 = .ok (.iload_n 1, 1) := by decide +kernel
theorem dX11_back_19 : decode cX11_back 19 = .ok (.invokestatic 52, 3) := by decide +kernel
theorem dX11_back_22 : decode cX11_back 22 = .ok (.ifCond .eq 10, 3) := by decide +kernel
theorem dX11_back_25 : decode cX11_back 25 = .ok (.aload_n 0, 1) := by decide +kernel
theorem dX11_back_26 : decode cX11_back 26 = .ok (.bipush (-3), 2) := by decide +kernel
theorem dX11_back_28 : decode cX11_back 28 = .ok (.invokevirtual 36, 3) := by decide +kernel
theorem dX11_back_31 : decode cX11_back 31 = .ok (.ireturn, 1) := by decide +kernel
theorem dX11_back_32 : decode cX11_back 32 = .ok (.aload_n 0, 1) := by decide +kernel
theorem dX11_back_33 : decode cX11_back 33 = .ok (.getfield 9, 3) := by decide +kernel
theorem dX11_back_36 : decode cX11_back 36 = .ok (.iload_n 1, 1) := by decide +kernel
theorem dX11_back_37 : decode cX11_back 37 = .ok (.invokestatic 116, 3) := by decide +kernel
theorem dX11_back_40 : decode cX11_back 40 = .ok (.aload_n 0, 1) := by decide +kernel
theorem dX11_back_41 : decode cX11_back 41 = .ok (.getfield 9, 3) := by decide +kernel
theorem dX11_back_44 : decode cX11_back 44 = .ok (.invokestatic 136, 3) := by decide +kernel
theorem dX11_back_47 : decode cX11_back 47 = .ok (.invokestatic 139, 3) := by decide +kernel
theorem dX11_back_50 : decode cX11_back 50 = .ok (.ireturn, 1) := by decide +kernel
set_option maxRecDepth 20000 in
theorem ggX11_names_X11_wrongBy : GoodIn wsX11_names wsX11_wrongBy := goodIn_r _ [5] (by decide +kernel) (by decide +kernel)
set_option maxRecDepth 20000 in
theorem gX11_names_X11_wrongBy : GoodIn wsX11_names (va_wsS RX11 132 yX11_wrongBy wsX11_wrongBy) := goodIn_app (goodIn_of _ (by decide +kernel)) ggX11_names_X11_wrongBy
set_option maxRecDepth 20000 in
theorem ggX11_names_X11_no : GoodIn wsX11_names wsX11_no := goodIn_r _ [9, 10, 11, 12, 13, 14, 15, 16, 17, 18, 19, 20, 21, 22, 23] (by decide +kernel) (by decide +kernel)
set_option maxRecDepth 20000 in
theorem gX11_names_X11_no : GoodIn wsX11_names (wsV RX11 36 RX11 yX11_no wsX11_no) := goodIn_app (goodIn_of _ (by decide +kernel)) ggX11_names_X11_no
theorem dX11_names_0 : decode cX11_names 0 = .ok (.iload_n 1, 1) := by decide +kernel
theorem dX11_names_1 : decode cX11_names 1 = .ok (.iconst 0, 1) := by decide +kernel
theorem dX11_names_2 : decode cX11_names 2 = .ok (.iconst 3, 1) := by decide +kernel
theorem dX11_names_3 : decode cX11_names 3 = .ok (.invokestatic 132, 3) := by decide +kernel
theorem dX11_names_6 : decode cX11_names 6 = .ok (.istore_n 2, 1) := by decide +kernel
theorem dX11_names_7 : decode cX11_names 7 = .ok (.iload_n 2, 1) := by decide +kernel
theorem dX11_names_8 : decode cX11_names 8 = .ok (.ifCond .eq 9, 3) := by decide +kernel
theorem dX11_names_11 : decode cX11_names 11 = .ok (.aload_n 0, 1) := by decide +kernel
theorem dX11_names_12 : decode cX11_names 12 = .ok (.iload_n 2, 1) := by decide +kernel
theorem dX11_names_13 : decode cX11_names 13 = .ok (.invokevirtual 36, 3) := by decide +kernel
theorem dX11_names_16 : decode cX11_names 16 = .ok (.ireturn, 1) := by decide +kernel
theorem dX11_names_17 : decode cX11_names 17 = .ok (.aload_n 0, 1) := by decide +kernel
theorem dX11_names_18 : decode cX11_names 18 = .ok (.getfield 9, 3) := by decide +kernel
theorem dX11_names_21 : decode cX11_names 21 = .ok (.iconst 2, 1) := by decide +kernel
theorem dX11_names_22 : decode cX11_names 22 = .ok (.iaload, 1) := by decide +kernel
theorem dX11_names_23 : decode cX11_names 23 = .ok (.istore_n 3, 1) := by decide +kernel
theorem dX11_names_24 : decode cX11_names 24 = .ok (.aload_n 0, 1) := by decide +kernel
theorem dX11_names_25 : decode cX11_names 25 = .ok (.getfield 9, 3) := by decide +kernel
theorem dX11_names_28 : decode cX11_names 28 = .ok (.iconst 2, 1) := by decide +kernel
theorem dX11_names_29 : decode cX11_names 29 = .ok (.iload_n 1, 1) := by decide +kernel
theorem dX11_names_30 : decode cX11_names 30 = .ok (.iastore, 1) := by decide +kernel
theorem dX11_names_31 : decode cX11_names 31 = .ok (.iload_n 3, 1) := by decide +kernel
theorem dX11_names_32 : decode cX11_names 32 = .ok (.ireturn, 1) := by decide +kernel
set_option maxRecDepth 20000 in
theorem ggX11_turn_X11_isOne : GoodIn wsX11_turn wsX11_isOne := goodIn_r _ [6, 1, 7, 8, 5, 9, 21, 22, 23, 24, 25, 26, 27, 28, 29, 30, 31, 32, 33] (by decide +kernel) (by decide +kernel)
set_option maxRecDepth 20000 in
theorem gX11_turn_X11_isOne : GoodIn wsX11_turn (wsV RX11 44 RX11 yX11_isOne wsX11_isOne) := goodIn_app (goodIn_of _ (by decide +kernel)) ggX11_turn_X11_isOne
set_option maxRecDepth 20000 in
theorem ggX11_turn_X11_isIn : GoodIn wsX11_turn wsX11_isIn := goodIn_r _ [9] (by decide +kernel) (by decide +kernel)
set_option maxRecDepth 20000 in
theorem gX11_turn_X11_isIn : GoodIn wsX11_turn (va_wsS RX11 40 yX11_isIn wsX11_isIn) := goodIn_app (goodIn_of _ (by decide +kernel)) ggX11_turn_X11_isIn
set_option maxRecDepth 20000 in
theorem ggX11_turn_X11_wrongBy : GoodIn wsX11_turn wsX11_wrongBy := goodIn_r _ [12] (by decide +kernel) (by decide +kernel)
set_option maxRecDepth 20000 in
theorem gX11_turn_X11_wrongBy : GoodIn wsX11_turn (va_wsS RX11 132 yX11_wrongBy wsX11_wrongBy) := goodIn_app (goodIn_of _ (by decide +kernel)) ggX11_turn_X11_wrongBy
set_option maxRecDepth 20000 in
theorem ggX11_turn_X11_no : GoodIn wsX11_turn wsX11_no := goodIn_r _ [16, 17, 21, 22, 23, 24, 25, 26, 27, 28, 29, 30, 31, 32, 33] (by decide +kernel) (by decide +kernel)
set_option maxRecDepth 20000 in
theorem gX11_turn_X11_no : GoodIn wsX11_turn (wsV RX11 36 RX11 yX11_no wsX11_no) := goodIn_app (goodIn_of _ (by decide +kernel)) ggX11_turn_X11_no
set_option maxRecDepth 20000 in
theorem ggX11_turn_X11_of : GoodIn wsX11_turn wsX11_of := goodIn_r _ [20] (by decide +kernel) (by decide +kernel)
set_option maxRecDepth 20000 in
theorem gX11_turn_X11_of : GoodIn wsX11_turn (va_wsS RX11 48 yX11_of wsX11_of) := goodIn_app (goodIn_of _ (by decide +kernel)) ggX11_turn_X11_of
theorem dX11_turn_0 : decode cX11_turn 0 = .ok (.aload_n 0, 1) := by decide +kernel
theorem dX11_turn_1 : decode cX11_turn 1 = .ok (.iload_n 1, 1) := by decide +kernel
theorem dX11_turn_2 : decode cX11_turn 2 = .ok (.invokevirtual 44, 3) := by decide +kernel
theorem dX11_turn_5 : decode cX11_turn 5 = .ok (.ifCond .ne 7, 3) := by decide +kernel
theorem dX11_turn_8 : decode cX11_turn 8 = .ok (.iconst (-1), 1) := by decide +kernel
theorem dX11_turn_9 : decode cX11_turn 9 = .ok (.goto 24, 3) := by decide +kernel
theorem dX11_turn_12 : decode cX11_turn 12 = .ok (.iload_n 2, 1) := by decide +kernel
theorem dX11_turn_13 : decode cX11_turn 13 = .ok (.iconst 0, 1) := by decide +kernel
theorem dX11_turn_14 : decode cX11_turn 14 = .ok (.iconst 5, 1) := by decide +kernel
theorem dX11_turn_15 : decode cX11_turn 15 = .ok (.invokestatic 40, 3) := by decide +kernel
theorem dX11_turn_18 : decode cX11_turn 18 = .ok (.ifCond .ne 8, 3) := by decide +kernel
theorem dX11_turn_21 : decode cX11_turn 21 = .ok (.bipush (-2), 2) := by decide +kernel
theorem dX11_turn_23 : decode cX11_turn 23 = .ok (.goto 10, 3) := by decide +kernel
theorem dX11_turn_26 : decode cX11_turn 26 = .ok (.iload_n 3, 1) := by decide +kernel
theorem dX11_turn_27 : decode cX11_turn 27 = .ok (.iconst 0, 1) := by decide +kernel
theorem dX11_turn_28 : decode cX11_turn 28 = .ok (.bipush 9, 2) := by decide +kernel
theorem dX11_turn_30 : decode cX11_turn 30 = .ok (.invokestatic 132, 3) := by decide +kernel
theorem dX11_turn_33 : decode cX11_turn 33 = .ok (.istore 4, 2) := by decide +kernel
theorem dX11_turn_35 : decode cX11_turn 35 = .ok (.iload 4, 2) := by decide +kernel
theorem dX11_turn_37 : decode cX11_turn 37 = .ok (.ifCond .eq 10, 3) := by decide +kernel
theorem dX11_turn_40 : decode cX11_turn 40 = .ok (.aload_n 0, 1) := by decide +kernel
theorem dX11_turn_41 : decode cX11_turn 41 = .ok (.iload 4, 2) := by decide +kernel
theorem dX11_turn_43 : decode cX11_turn 43 = .ok (.invokevirtual 36, 3) := by decide +kernel
theorem dX11_turn_46 : decode cX11_turn 46 = .ok (.ireturn, 1) := by decide +kernel
theorem dX11_turn_47 : decode cX11_turn 47 = .ok (.bipush 10, 2) := by decide +kernel
theorem dX11_turn_49 : decode cX11_turn 49 = .ok (.aload_n 0, 1) := by decide +kernel
theorem dX11_turn_50 : decode cX11_turn 50 = .ok (.getfield 9, 3) := by decide +kernel
theorem dX11_turn_53 : decode cX11_turn 53 = .ok (.iload_n 1, 1) := by decide +kernel
theorem dX11_turn_54 : decode cX11_turn 54 = .ok (.iconst 0, 1) := by decide +kernel
theorem dX11_turn_55 : decode cX11_turn 55 = .ok (.invokestatic 48, 3) := by decide +kernel
theorem dX11_turn_58 : decode cX11_turn 58 = .ok (.iaload, 1) := by decide +kernel
theorem dX11_turn_59 : decode cX11_turn 59 = .ok (.imul, 1) := by decide +kernel
theorem dX11_turn_60 : decode cX11_turn 60 = .ok (.aload_n 0, 1) := by decide +kernel
theorem dX11_turn_61 : decode cX11_turn 61 = .ok (.getfield 9, 3) := by decide +kernel
theorem dX11_turn_64 : decode cX11_turn 64 = .ok (.iload_n 1, 1) := by decide +kernel
theorem dX11_turn_65 : decode cX11_turn 65 = .ok (.iconst 1, 1) := by decide +kernel
theorem dX11_turn_66 : decode cX11_turn 66 = .ok (.invokestatic 48, 3) := by decide +kernel
theorem dX11_turn_69 : decode cX11_turn 69 = .ok (.iaload, 1) := by decide +kernel
theorem dX11_turn_70 : decode cX11_turn 70 = .ok (.iadd, 1) := by decide +kernel
theorem dX11_turn_71 : decode cX11_turn 71 = .ok (.istore 5, 2) := by decide +kernel
theorem dX11_turn_73 : decode cX11_turn 73 = .ok (.aload_n 0, 1) := by decide +kernel
theorem dX11_turn_74 : decode cX11_turn 74 = .ok (.getfield 9, 3) := by decide +kernel
theorem dX11_turn_77 : decode cX11_turn 77 = .ok (.iload_n 1, 1) := by decide +kernel
theorem dX11_turn_78 : decode cX11_turn 78 = .ok (.iconst 0, 1) := by decide +kernel
theorem dX11_turn_79 : decode cX11_turn 79 = .ok (.invokestatic 48, 3) := by decide +kernel
theorem dX11_turn_82 : decode cX11_turn 82 = .ok (.iload_n 2, 1) := by decide +kernel
theorem dX11_turn_83 : decode cX11_turn 83 = .ok (.iastore, 1) := by decide +kernel
theorem dX11_turn_84 : decode cX11_turn 84 = .ok (.aload_n 0, 1) := by decide +kernel
theorem dX11_turn_85 : decode cX11_turn 85 = .ok (.getfield 9, 3) := by decide +kernel
theorem dX11_turn_88 : decode cX11_turn 88 = .ok (.iload_n 1, 1) := by decide +kernel
theorem dX11_turn_89 : decode cX11_turn 89 = .ok (.iconst 1, 1) := by decide +kernel
theorem dX11_turn_90 : decode cX11_turn 90 = .ok (.invokestatic 48, 3) := by decide +kernel
theorem dX11_turn_93 : decode cX11_turn 93 = .ok (.iload_n 3, 1) := by decide +kernel
theorem dX11_turn_94 : decode cX11_turn 94 = .ok (.iastore, 1) := by decide +kernel
theorem dX11_turn_95 : decode cX11_turn 95 = .ok (.iload 5, 2) := by decide +kernel
theorem dX11_turn_97 : decode cX11_turn 97 = .ok (.ireturn, 1) := by decide +kernel
set_option maxRecDepth 20000 in
theorem ggX11_weeks_X11_no : GoodIn wsX11_weeks wsX11_no := goodIn_r _ [6, 7, 47, 48, 49, 50, 51, 52, 53, 54, 55, 56, 57, 58, 59] (by decide +kernel) (by decide +kernel)
set_option maxRecDepth 20000 in
theorem gX11_weeks_X11_no : GoodIn wsX11_weeks (wsV RX11 36 RX11 yX11_no wsX11_no) := goodIn_app (goodIn_of _ (by decide +kernel)) ggX11_weeks_X11_no
set_option maxRecDepth 20000 in
theorem ggX11_weeks_X11_weeksOn : GoodIn wsX11_weeks wsX11_weeksOn := goodIn_r _ [10, 11, 12, 5, 13, 14, 15, 16, 17, 18, 19, 20, 21, 22, 23, 24, 25, 26, 27, 28, 29, 30, 31, 32, 33, 34, 35, 36, 37, 38, 39, 40] (by decide +kernel) (by decide +kernel)
set_option maxRecDepth 20000 in
theorem gX11_weeks_X11_weeksOn : GoodIn wsX11_weeks (va_wsS RX11 119 yX11_weeksOn wsX11_weeksOn) := goodIn_app (goodIn_of _ (by decide +kernel)) ggX11_weeks_X11_weeksOn
set_option maxRecDepth 20000 in
theorem ggX11_weeks_X11_hereIn : GoodIn wsX11_weeks wsX11_hereIn := goodIn_r _ [43, 17, 18, 5, 19] (by decide +kernel) (by decide +kernel)
set_option maxRecDepth 20000 in
theorem gX11_weeks_X11_hereIn : GoodIn wsX11_weeks (va_wsS RX11 136 yX11_hereIn wsX11_hereIn) := goodIn_app (goodIn_of _ (by decide +kernel)) ggX11_weeks_X11_hereIn
set_option maxRecDepth 20000 in
theorem ggX11_weeks_X11_bits : GoodIn wsX11_weeks wsX11_bits := goodIn_r _ [46] (by decide +kernel) (by decide +kernel)
set_option maxRecDepth 20000 in
theorem gX11_weeks_X11_bits : GoodIn wsX11_weeks (va_wsS RX11 139 yX11_bits wsX11_bits) := goodIn_app (goodIn_of _ (by decide +kernel)) ggX11_weeks_X11_bits
theorem dX11_weeks_0 : decode cX11_weeks 0 = .ok (.iload_n 1, 1) := by decide +kernel
theorem dX11_weeks_1 : decode cX11_weeks 1 = .ok (.iconst 1, 1) := by decide +kernel
theorem dX11_weeks_2 : decode cX11_weeks 2 = .ok (.if_icmp .ge 10, 3) := by decide +kernel
theorem dX11_weeks_5 : decode cX11_weeks 5 = .ok (.aload_n 0, 1) := by decide +kernel
theorem dX11_weeks_6 : decode cX11_weeks 6 = .ok (.bipush (-4), 2) := by decide +kernel
theorem dX11_weeks_8 : decode cX11_weeks 8 = .ok (.invokevirtual 36, 3) := by decide +kernel
theorem dX11_weeks_11 : decode cX11_weeks 11 = .ok (.ireturn, 1) := by decide +kernel
theorem dX11_weeks_12 : decode cX11_weeks 12 = .ok (.iload_n 1, 1) := by decide +kernel
theorem dX11_weeks_13 : decode cX11_weeks 13 = .ok (.bipush 60, 2) := by decide +kernel
theorem dX11_weeks_15 : decode cX11_weeks 15 = .ok (.if_icmp .gt 17, 3) := by decide +kernel
theorem dX11_weeks_18 : decode cX11_weeks 18 = .ok (.aload_n 0, 1) := by decide +kernel
theorem dX11_weeks_19 : decode cX11_weeks 19 = .ok (.getfield 9, 3) := by decide +kernel
theorem dX11_weeks_22 : decode cX11_weeks 22 = .ok (.iconst 1, 1) := by decide +kernel
theorem dX11_weeks_23 : decode cX11_weeks 23 = .ok (.iaload, 1) := by decide +kernel
theorem dX11_weeks_24 : decode cX11_weeks 24 = .ok (.iload_n 1, 1) := by decide +kernel
theorem dX11_weeks_25 : decode cX11_weeks 25 = .ok (.iadd, 1) := by decide +kernel
theorem dX11_weeks_26 : decode cX11_weeks 26 = .ok (.sipush 999, 3) := by decide +kernel
theorem dX11_weeks_29 : decode cX11_weeks 29 = .ok (.if_icmp .le 10, 3) := by decide +kernel
theorem dX11_weeks_32 : decode cX11_weeks 32 = .ok (.aload_n 0, 1) := by decide +kernel
theorem dX11_weeks_33 : decode cX11_weeks 33 = .ok (.bipush (-6), 2) := by decide +kernel
theorem dX11_weeks_35 : decode cX11_weeks 35 = .ok (.invokevirtual 36, 3) := by decide +kernel
theorem dX11_weeks_38 : decode cX11_weeks 38 = .ok (.ireturn, 1) := by decide +kernel
theorem dX11_weeks_39 : decode cX11_weeks 39 = .ok (.aload_n 0, 1) := by decide +kernel
theorem dX11_weeks_40 : decode cX11_weeks 40 = .ok (.getfield 9, 3) := by decide +kernel
theorem dX11_weeks_43 : decode cX11_weeks 43 = .ok (.iload_n 1, 1) := by decide +kernel
theorem dX11_weeks_44 : decode cX11_weeks 44 = .ok (.invokestatic 119, 3) := by decide +kernel
theorem dX11_weeks_47 : decode cX11_weeks 47 = .ok (.aload_n 0, 1) := by decide +kernel
theorem dX11_weeks_48 : decode cX11_weeks 48 = .ok (.getfield 9, 3) := by decide +kernel
theorem dX11_weeks_51 : decode cX11_weeks 51 = .ok (.invokestatic 136, 3) := by decide +kernel
theorem dX11_weeks_54 : decode cX11_weeks 54 = .ok (.invokestatic 139, 3) := by decide +kernel
theorem dX11_weeks_57 : decode cX11_weeks 57 = .ok (.ireturn, 1) := by decide +kernel
set_option maxRecDepth 20000 in
theorem ggX11_takes_X11_copies : GoodIn wsX11_takes wsX11_copies := goodIn_r _ [6] (by decide +kernel) (by decide +kernel)
set_option maxRecDepth 20000 in
theorem gX11_takes_X11_copies : GoodIn wsX11_takes (va_wsS RX11 125 yX11_copies wsX11_copies) := goodIn_app (goodIn_of _ (by decide +kernel)) ggX11_takes_X11_copies
set_option maxRecDepth 20000 in
theorem ggX11_takes_X11_weeksOn : GoodIn wsX11_takes wsX11_weeksOn := goodIn_r _ [9, 10, 11, 5, 12, 13, 14, 15, 16, 17, 18, 19, 20, 21, 22, 23, 24, 25, 26, 27, 28, 29, 30, 31, 32, 33, 34, 35, 36, 37, 38, 39] (by decide +kernel) (by decide +kernel)
set_option maxRecDepth 20000 in
theorem gX11_takes_X11_weeksOn : GoodIn wsX11_takes (va_wsS RX11 119 yX11_weeksOn wsX11_weeksOn) := goodIn_app (goodIn_of _ (by decide +kernel)) ggX11_takes_X11_weeksOn
theorem dX11_takes_0 : decode cX11_takes 0 = .ok (.aload_n 0, 1) := by decide +kernel
theorem dX11_takes_1 : decode cX11_takes 1 = .ok (.getfield 9, 3) := by decide +kernel
theorem dX11_takes_4 : decode cX11_takes 4 = .ok (.aload_n 0, 1) := by decide +kernel
theorem dX11_takes_5 : decode cX11_takes 5 = .ok (.getfield 13, 3) := by decide +kernel
theorem dX11_takes_8 : decode cX11_takes 8 = .ok (.invokestatic 125, 3) := by decide +kernel
theorem dX11_takes_11 : decode cX11_takes 11 = .ok (.aload_n 0, 1) := by decide +kernel
theorem dX11_takes_12 : decode cX11_takes 12 = .ok (.getfield 13, 3) := by decide +kernel
theorem dX11_takes_15 : decode cX11_takes 15 = .ok (.iload_n 1, 1) := by decide +kernel
theorem dX11_takes_16 : decode cX11_takes 16 = .ok (.invokestatic 119, 3) := by decide +kernel
theorem dX11_takes_19 : decode cX11_takes 19 = .ok (.return_, 1) := by decide +kernel
set_option maxRecDepth 20000 in
theorem ggX11_memoryThen_X11_areTwo : GoodIn wsX11_memoryThen wsX11_areTwo := goodIn_r _ [6, 7, 8, 9, 5, 10, 11, 12, 13, 14, 63, 64, 65, 66, 67, 68, 69, 70, 71, 72, 73, 74, 75] (by decide +kernel) (by decide +kernel)
set_option maxRecDepth 20000 in
theorem gX11_memoryThen_X11_areTwo : GoodIn wsX11_memoryThen (wsV RX11 109 RX11 yX11_areTwo wsX11_areTwo) := goodIn_app (goodIn_of _ (by decide +kernel)) ggX11_memoryThen_X11_areTwo
set_option maxRecDepth 20000 in
theorem ggX11_memoryThen_X11_wrongBy : GoodIn wsX11_memoryThen wsX11_wrongBy := goodIn_r _ [17] (by decide +kernel) (by decide +kernel)
set_option maxRecDepth 20000 in
theorem gX11_memoryThen_X11_wrongBy : GoodIn wsX11_memoryThen (va_wsS RX11 132 yX11_wrongBy wsX11_wrongBy) := goodIn_app (goodIn_of _ (by decide +kernel)) ggX11_memoryThen_X11_wrongBy
set_option maxRecDepth 20000 in
theorem ggX11_memoryThen_X11_no : GoodIn wsX11_memoryThen wsX11_no := goodIn_r _ [21, 22, 63, 64, 65, 66, 67, 68, 69, 70, 71, 72, 73, 74, 75] (by decide +kernel) (by decide +kernel)
set_option maxRecDepth 20000 in
theorem gX11_memoryThen_X11_no : GoodIn wsX11_memoryThen (wsV RX11 36 RX11 yX11_no wsX11_no) := goodIn_app (goodIn_of _ (by decide +kernel)) ggX11_memoryThen_X11_no
set_option maxRecDepth 20000 in
theorem ggX11_memoryThen_X11_takes : GoodIn wsX11_memoryThen wsX11_takes := goodIn_r _ [26, 11, 1, 27, 28, 5, 29, 30, 31, 32, 33, 34, 35, 36, 37, 38, 39, 40, 41, 42, 43, 44, 45, 46, 47, 48, 49, 50, 51, 52, 53, 54, 55, 56, 57, 58, 59, 60, 61, 62, 63, 64, 65, 66, 67, 68, 69, 70, 71, 72, 73, 74, 75] (by decide +kernel) (by decide +kernel)
set_option maxRecDepth 20000 in
theorem gX11_memoryThen_X11_takes : GoodIn wsX11_memoryThen (wsV RX11 142 RX11 yX11_takes wsX11_takes) := goodIn_app (goodIn_of _ (by decide +kernel)) ggX11_memoryThen_X11_takes
set_option maxRecDepth 20000 in
theorem ggX11_memoryThen_X11_by : GoodIn wsX11_memoryThen wsX11_by := goodIn_r _ [47] (by decide +kernel) (by decide +kernel)
set_option maxRecDepth 20000 in
theorem gX11_memoryThen_X11_by : GoodIn wsX11_memoryThen (va_wsS RX11 56 yX11_by wsX11_by) := goodIn_app (goodIn_of _ (by decide +kernel)) ggX11_memoryThen_X11_by
theorem dX11_memoryThen_0 : decode cX11_memoryThen 0 = .ok (.aload_n 0, 1) := by decide +kernel
theorem dX11_memoryThen_1 : decode cX11_memoryThen 1 = .ok (.iload_n 1, 1) := by decide +kernel
theorem dX11_memoryThen_2 : decode cX11_memoryThen 2 = .ok (.iload_n 2, 1) := by decide +kernel
theorem dX11_memoryThen_3 : decode cX11_memoryThen 3 = .ok (.invokevirtual 109, 3) := by decide +kernel
theorem dX11_memoryThen_6 : decode cX11_memoryThen 6 = .ok (.ifCond .eq 13, 3) := by decide +kernel
theorem dX11_memoryThen_9 : decode cX11_memoryThen 9 = .ok (.iload_n 3, 1) := by decide +kernel
theorem dX11_memoryThen_10 : decode cX11_memoryThen 10 = .ok (.iconst 0, 1) := by decide +kernel
theorem dX11_memoryThen_11 : decode cX11_memoryThen 11 = .ok (.bipush 99, 2) := by decide +kernel
theorem dX11_memoryThen_13 : decode cX11_memoryThen 13 = .ok (.invokestatic 132, 3) := by decide +kernel
theorem dX11_memoryThen_16 : decode cX11_memoryThen 16 = .ok (.goto 4, 3) := by decide +kernel
theorem dX11_memoryThen_19 : decode cX11_memoryThen 19 = .ok (.iconst (-1), 1) := by decide +kernel
theorem dX11_memoryThen_20 : decode cX11_memoryThen 20 = .ok (.istore 4, 2) := by decide +kernel
theorem dX11_memoryThen_22 : decode cX11_memoryThen 22 = .ok (.iload 4, 2) := by decide +kernel
theorem dX11_memoryThen_24 : decode cX11_memoryThen 24 = .ok (.ifCond .eq 10, 3) := by decide +kernel
theorem dX11_memoryThen_27 : decode cX11_memoryThen 27 = .ok (.aload_n 0, 1) := by decide +kernel
theorem dX11_memoryThen_28 : decode cX11_memoryThen 28 = .ok (.iload 4, 2) := by decide +kernel
