theorem dX0_init_0 : decode cX0_init 0 = .ok (.aload_n 0, 1) := by decide +kernel
theorem dX0_init_1 : decode cX0_init 1 = .ok (.invokespecial 1, 3) := by decide +kernel
theorem dX0_init_4 : decode cX0_init 4 = .ok (.return_, 1) := by decide +kernel
theorem dX0_change_0 : decode cX0_change 0 = .ok (.iload_n 2, 1) := by decide +kernel
theorem dX0_change_1 : decode cX0_change 1 = .ok (.bipush 10, 2) := by decide +kernel
theorem dX0_change_3 : decode cX0_change 3 = .ok (.idiv, 1) := by decide +kernel
theorem dX0_change_4 : decode cX0_change 4 = .ok (.ineg, 1) := by decide +kernel
theorem dX0_change_5 : decode cX0_change 5 = .ok (.ireturn, 1) := by decide +kernel
theorem dX1_init_0 : decode cX1_init 0 = .ok (.aload_n 0, 1) := by decide +kernel
theorem dX1_init_1 : decode cX1_init 1 = .ok (.invokespecial 1, 3) := by decide +kernel
theorem dX1_init_4 : decode cX1_init 4 = .ok (.return_, 1) := by decide +kernel
theorem dX1_change_0 : decode cX1_change 0 = .ok (.iconst 0, 1) := by decide +kernel
theorem dX1_change_1 : decode cX1_change 1 = .ok (.ireturn, 1) := by decide +kernel
theorem dX1_isNamed_0 : decode cX1_isNamed 0 = .ok (.iconst 0, 1) := by decide +kernel
theorem dX1_isNamed_1 : decode cX1_isNamed 1 = .ok (.ireturn, 1) := by decide +kernel
theorem dX2_init_0 : decode cX2_init 0 = .ok (.aload_n 0, 1) := by decide +kernel
theorem dX2_init_1 : decode cX2_init 1 = .ok (.invokespecial 1, 3) := by decide +kernel
theorem dX2_init_4 : decode cX2_init 4 = .ok (.return_, 1) := by decide +kernel
theorem dX2_change_0 : decode cX2_change 0 = .ok (.iload_n 1, 1) := by decide +kernel
theorem dX2_change_1 : decode cX2_change 1 = .ok (.bipush 10, 2) := by decide +kernel
theorem dX2_change_3 : decode cX2_change 3 = .ok (.irem, 1) := by decide +kernel
theorem dX2_change_4 : decode cX2_change 4 = .ok (.istore 4, 2) := by decide +kernel
theorem dX2_change_6 : decode cX2_change 6 = .ok (.iload 4, 2) := by decide +kernel
theorem dX2_change_8 : decode cX2_change 8 = .ok (.bipush 8, 2) := by decide +kernel
theorem dX2_change_10 : decode cX2_change 10 = .ok (.if_icmp .eq 15, 3) := by decide +kernel
theorem dX2_change_13 : decode cX2_change 13 = .ok (.iload 4, 2) := by decide +kernel
theorem dX2_change_15 : decode cX2_change 15 = .ok (.bipush 9, 2) := by decide +kernel
theorem dX2_change_17 : decode cX2_change 17 = .ok (.if_icmp .eq 8, 3) := by decide +kernel
theorem dX2_change_20 : decode cX2_change 20 = .ok (.iload 4, 2) := by decide +kernel
theorem dX2_change_22 : decode cX2_change 22 = .ok (.ifCond .ne 7, 3) := by decide +kernel
theorem dX2_change_25 : decode cX2_change 25 = .ok (.iconst 1, 1) := by decide +kernel
theorem dX2_change_26 : decode cX2_change 26 = .ok (.goto 4, 3) := by decide +kernel
theorem dX2_change_29 : decode cX2_change 29 = .ok (.iconst 0, 1) := by decide +kernel
theorem dX2_change_30 : decode cX2_change 30 = .ok (.istore 5, 2) := by decide +kernel
theorem dX2_change_32 : decode cX2_change 32 = .ok (.aload_n 0, 1) := by decide +kernel
theorem dX2_change_33 : decode cX2_change 33 = .ok (.iload_n 1, 1) := by decide +kernel
theorem dX2_change_34 : decode cX2_change 34 = .ok (.iload_n 2, 1) := by decide +kernel
theorem dX2_change_35 : decode cX2_change 35 = .ok (.iload_n 3, 1) := by decide +kernel
theorem dX2_change_36 : decode cX2_change 36 = .ok (.invokespecial 7, 3) := by decide +kernel
theorem dX2_change_39 : decode cX2_change 39 = .ok (.iload 5, 2) := by decide +kernel
theorem dX2_change_41 : decode cX2_change 41 = .ok (.ifCond .eq 7, 3) := by decide +kernel
theorem dX2_change_44 : decode cX2_change 44 = .ok (.iconst 3, 1) := by decide +kernel
theorem dX2_change_45 : decode cX2_change 45 = .ok (.goto 4, 3) := by decide +kernel
theorem dX2_change_48 : decode cX2_change 48 = .ok (.iconst 0, 1) := by decide +kernel
theorem dX2_change_49 : decode cX2_change 49 = .ok (.iadd, 1) := by decide +kernel
theorem dX2_change_50 : decode cX2_change 50 = .ok (.ireturn, 1) := by decide +kernel
theorem dX3_init_0 : decode cX3_init 0 = .ok (.aload_n 0, 1) := by decide +kernel
theorem dX3_init_1 : decode cX3_init 1 = .ok (.invokespecial 3, 3) := by decide +kernel
theorem dX3_init_4 : decode cX3_init 4 = .ok (.aload_n 0, 1) := by decide +kernel
theorem dX3_init_5 : decode cX3_init 5 = .ok (.bipush 8, 2) := by decide +kernel
theorem dX3_init_7 : decode cX3_init 7 = .ok (.newarray .int, 2) := by decide +kernel
theorem dX3_init_9 : decode cX3_init 9 = .ok (.putfield 9, 3) := by decide +kernel
theorem dX3_init_12 : decode cX3_init 12 = .ok (.aload_n 0, 1) := by decide +kernel
theorem dX3_init_13 : decode cX3_init 13 = .ok (.iconst 4, 1) := by decide +kernel
theorem dX3_init_14 : decode cX3_init 14 = .ok (.newarray .int, 2) := by decide +kernel
theorem dX3_init_16 : decode cX3_init 16 = .ok (.putfield 15, 3) := by decide +kernel
theorem dX3_init_19 : decode cX3_init 19 = .ok (.aload_n 0, 1) := by decide +kernel
theorem dX3_init_20 : decode cX3_init 20 = .ok (.iconst 4, 1) := by decide +kernel
theorem dX3_init_21 : decode cX3_init 21 = .ok (.newarray .int, 2) := by decide +kernel
theorem dX3_init_23 : decode cX3_init 23 = .ok (.putfield 18, 3) := by decide +kernel
theorem dX3_init_26 : decode cX3_init 26 = .ok (.aload_n 0, 1) := by decide +kernel
theorem dX3_init_27 : decode cX3_init 27 = .ok (.iconst 0, 1) := by decide +kernel
theorem dX3_init_28 : decode cX3_init 28 = .ok (.putfield 21, 3) := by decide +kernel
theorem dX3_init_31 : decode cX3_init 31 = .ok (.aload_n 0, 1) := by decide +kernel
theorem dX3_init_32 : decode cX3_init 32 = .ok (.aload_n 1, 1) := by decide +kernel
theorem dX3_init_33 : decode cX3_init 33 = .ok (.putfield 25, 3) := by decide +kernel
theorem dX3_init_36 : decode cX3_init 36 = .ok (.aload_n 0, 1) := by decide +kernel
theorem dX3_init_37 : decode cX3_init 37 = .ok (.new 29, 3) := by decide +kernel
theorem dX3_init_40 : decode cX3_init 40 = .ok (.dup, 1) := by decide +kernel
theorem dX3_init_41 : decode cX3_init 41 = .ok (.aload_n 2, 1) := by decide +kernel
theorem dX3_init_42 : decode cX3_init 42 = .ok (.invokespecial 31, 3) := by decide +kernel
theorem dX3_init_45 : decode cX3_init 45 = .ok (.putfield 34, 3) := by decide +kernel
theorem dX3_init_48 : decode cX3_init 48 = .ok (.aload_n 0, 1) := by decide +kernel
theorem dX3_init_49 : decode cX3_init 49 = .ok (.new 29, 3) := by decide +kernel
theorem dX3_init_52 : decode cX3_init 52 = .ok (.dup, 1) := by decide +kernel
theorem dX3_init_53 : decode cX3_init 53 = .ok (.aload_n 2, 1) := by decide +kernel
theorem dX3_init_54 : decode cX3_init 54 = .ok (.invokespecial 31, 3) := by decide +kernel
theorem dX3_init_57 : decode cX3_init 57 = .ok (.putfield 37, 3) := by decide +kernel
theorem dX3_init_60 : decode cX3_init 60 = .ok (.return_, 1) := by decide +kernel
theorem dX3_startAgain_0 : decode cX3_startAgain 0 = .ok (.aload_n 0, 1) := by decide +kernel
theorem dX3_startAgain_1 : decode cX3_startAgain 1 = .ok (.getfield 34, 3) := by decide +kernel
theorem dX3_startAgain_4 : decode cX3_startAgain 4 = .ok (.aload_n 0, 1) := by decide +kernel
theorem dX3_startAgain_5 : decode cX3_startAgain 5 = .ok (.getfield 25, 3) := by decide +kernel
theorem dX3_startAgain_8 : decode cX3_startAgain 8 = .ok (.invokevirtual 40, 3) := by decide +kernel
theorem dX3_startAgain_11 : decode cX3_startAgain 11 = .ok (.return_, 1) := by decide +kernel
theorem dX3_after_0 : decode cX3_after 0 = .ok (.aload_n 0, 1) := by decide +kernel
theorem dX3_after_1 : decode cX3_after 1 = .ok (.invokevirtual 44, 3) := by decide +kernel
theorem dX3_after_4 : decode cX3_after 4 = .ok (.aload_n 0, 1) := by decide +kernel
theorem dX3_after_5 : decode cX3_after 5 = .ok (.getfield 34, 3) := by decide +kernel
theorem dX3_after_8 : decode cX3_after 8 = .ok (.iload_n 1, 1) := by decide +kernel
theorem dX3_after_9 : decode cX3_after 9 = .ok (.invokevirtual 47, 3) := by decide +kernel
theorem dX3_after_12 : decode cX3_after 12 = .ok (.aload_n 0, 1) := by decide +kernel
theorem dX3_after_13 : decode cX3_after 13 = .ok (.getfield 34, 3) := by decide +kernel
theorem dX3_after_16 : decode cX3_after 16 = .ok (.areturn, 1) := by decide +kernel
theorem dX3_untilForgotten_0 : decode cX3_untilForgotten 0 = .ok (.aload_n 0, 1) := by decide +kernel
theorem dX3_untilForgotten_1 : decode cX3_untilForgotten 1 = .ok (.invokevirtual 44, 3) := by decide +kernel
theorem dX3_untilForgotten_4 : decode cX3_untilForgotten 4 = .ok (.aload_n 0, 1) := by decide +kernel
theorem dX3_untilForgotten_5 : decode cX3_untilForgotten 5 = .ok (.getfield 34, 3) := by decide +kernel
theorem dX3_untilForgotten_8 : decode cX3_untilForgotten 8 = .ok (.iload_n 1, 1) := by decide +kernel
theorem dX3_untilForgotten_9 : decode cX3_untilForgotten 9 = .ok (.invokevirtual 51, 3) := by decide +kernel
theorem dX3_untilForgotten_12 : decode cX3_untilForgotten 12 = .ok (.ireturn, 1) := by decide +kernel
theorem dX3_untilFirstForgotten_0 : decode cX3_untilFirstForgotten 0 = .ok (.aload_n 0, 1) := by decide +kernel
theorem dX3_untilFirstForgotten_1 : decode cX3_untilFirstForgotten 1 = .ok (.invokevirtual 44, 3) := by decide +kernel
theorem dX3_untilFirstForgotten_4 : decode cX3_untilFirstForgotten 4 = .ok (.aload_n 0, 1) := by decide +kernel
theorem dX3_untilFirstForgotten_5 : decode cX3_untilFirstForgotten 5 = .ok (.getfield 25, 3) := by decide +kernel
theorem dX3_untilFirstForgotten_8 : decode cX3_untilFirstForgotten 8 = .ok (.invokevirtual 55, 3) := by decide +kernel
theorem dX3_untilFirstForgotten_11 : decode cX3_untilFirstForgotten 11 = .ok (.istore_n 1, 1) := by decide +kernel
theorem dX3_untilFirstForgotten_12 : decode cX3_untilFirstForgotten 12 = .ok (.iconst 1, 1) := by decide +kernel
theorem dX3_untilFirstForgotten_13 : decode cX3_untilFirstForgotten 13 = .ok (.istore_n 2, 1) := by decide +kernel
theorem dX3_untilFirstForgotten_14 : decode cX3_untilFirstForgotten 14 = .ok (.iload_n 2, 1) := by decide +kernel
theorem dX3_untilFirstForgotten_15 : decode cX3_untilFirstForgotten 15 = .ok (.bipush 99, 2) := by decide +kernel
theorem dX3_untilFirstForgotten_17 : decode cX3_untilFirstForgotten 17 = .ok (.if_icmp .gt 29, 3) := by decide +kernel
theorem dX3_untilFirstForgotten_20 : decode cX3_untilFirstForgotten 20 = .ok (.aload_n 0, 1) := by decide +kernel
theorem dX3_untilFirstForgotten_21 : decode cX3_untilFirstForgotten 21 = .ok (.getfield 34, 3) := by decide +kernel
theorem dX3_untilFirstForgotten_24 : decode cX3_untilFirstForgotten 24 = .ok (.invokevirtual 59, 3) := by decide +kernel
theorem dX3_untilFirstForgotten_27 : decode cX3_untilFirstForgotten 27 = .ok (.aload_n 0, 1) := by decide +kernel
theorem dX3_untilFirstForgotten_28 : decode cX3_untilFirstForgotten 28 = .ok (.getfield 34, 3) := by decide +kernel
theorem dX3_untilFirstForgotten_31 : decode cX3_untilFirstForgotten 31 = .ok (.invokevirtual 55, 3) := by decide +kernel
theorem dX3_untilFirstForgotten_34 : decode cX3_untilFirstForgotten 34 = .ok (.iload_n 1, 1) := by decide +kernel
theorem dX3_untilFirstForgotten_35 : decode cX3_untilFirstForgotten 35 = .ok (.if_icmp .eq 5, 3) := by decide +kernel
theorem dX3_untilFirstForgotten_38 : decode cX3_untilFirstForgotten 38 = .ok (.iload_n 2, 1) := by decide +kernel
theorem dX3_untilFirstForgotten_39 : decode cX3_untilFirstForgotten 39 = .ok (.ireturn, 1) := by decide +kernel
theorem dX3_untilFirstForgotten_40 : decode cX3_untilFirstForgotten 40 = .ok (.iinc 2 1, 3) := by decide +kernel
theorem dX3_untilFirstForgotten_43 : decode cX3_untilFirstForgotten 43 = .ok (.goto (-29), 3) := by decide +kernel
theorem dX3_untilFirstForgotten_46 : decode cX3_untilFirstForgotten 46 = .ok (.bipush 100, 2) := by decide +kernel
theorem dX3_untilFirstForgotten_48 : decode cX3_untilFirstForgotten 48 = .ok (.ireturn, 1) := by decide +kernel
theorem dX3_firstForgotten_0 : decode cX3_firstForgotten 0 = .ok (.aload_n 0, 1) := by decide +kernel
theorem dX3_firstForgotten_1 : decode cX3_firstForgotten 1 = .ok (.invokevirtual 62, 3) := by decide +kernel
theorem dX3_firstForgotten_4 : decode cX3_firstForgotten 4 = .ok (.pop, 1) := by decide +kernel
theorem dX3_firstForgotten_5 : decode cX3_firstForgotten 5 = .ok (.iconst 0, 1) := by decide +kernel
theorem dX3_firstForgotten_6 : decode cX3_firstForgotten 6 = .ok (.istore_n 1, 1) := by decide +kernel
theorem dX3_firstForgotten_7 : decode cX3_firstForgotten 7 = .ok (.iload_n 1, 1) := by decide +kernel
theorem dX3_firstForgotten_8 : decode cX3_firstForgotten 8 = .ok (.aload_n 0, 1) := by decide +kernel
theorem dX3_firstForgotten_9 : decode cX3_firstForgotten 9 = .ok (.getfield 25, 3) := by decide +kernel
theorem dX3_firstForgotten_12 : decode cX3_firstForgotten 12 = .ok (.getfield 65, 3) := by decide +kernel
theorem dX3_firstForgotten_15 : decode cX3_firstForgotten 15 = .ok (.if_icmp .ge 35, 3) := by decide +kernel
theorem dX3_firstForgotten_18 : decode cX3_firstForgotten 18 = .ok (.aload_n 0, 1) := by decide +kernel
theorem dX3_firstForgotten_19 : decode cX3_firstForgotten 19 = .ok (.getfield 25, 3) := by decide +kernel
theorem dX3_firstForgotten_22 : decode cX3_firstForgotten 22 = .ok (.getfield 68, 3) := by decide +kernel
theorem dX3_firstForgotten_25 : decode cX3_firstForgotten 25 = .ok (.iload_n 1, 1) := by decide +kernel
theorem dX3_firstForgotten_26 : decode cX3_firstForgotten 26 = .ok (.baload, 1) := by decide +kernel
theorem dX3_firstForgotten_27 : decode cX3_firstForgotten 27 = .ok (.ifCond .eq 17, 3) := by decide +kernel
theorem dX3_firstForgotten_30 : decode cX3_firstForgotten 30 = .ok (.aload_n 0, 1) := by decide +kernel
theorem dX3_firstForgotten_31 : decode cX3_firstForgotten 31 = .ok (.getfield 34, 3) := by decide +kernel
theorem dX3_firstForgotten_34 : decode cX3_firstForgotten 34 = .ok (.getfield 68, 3) := by decide +kernel
theorem dX3_firstForgotten_37 : decode cX3_firstForgotten 37 = .ok (.iload_n 1, 1) := by decide +kernel
theorem dX3_firstForgotten_38 : decode cX3_firstForgotten 38 = .ok (.baload, 1) := by decide +kernel
theorem dX3_firstForgotten_39 : decode cX3_firstForgotten 39 = .ok (.ifCond .ne 5, 3) := by decide +kernel
theorem dX3_firstForgotten_42 : decode cX3_firstForgotten 42 = .ok (.iload_n 1, 1) := by decide +kernel
theorem dX3_firstForgotten_43 : decode cX3_firstForgotten 43 = .ok (.ireturn, 1) := by decide +kernel
theorem dX3_firstForgotten_44 : decode cX3_firstForgotten 44 = .ok (.iinc 1 1, 3) := by decide +kernel
theorem dX3_firstForgotten_47 : decode cX3_firstForgotten 47 = .ok (.goto (-40), 3) := by decide +kernel
theorem dX3_firstForgotten_50 : decode cX3_firstForgotten 50 = .ok (.bipush (-9), 2) := by decide +kernel
theorem dX3_firstForgotten_52 : decode cX3_firstForgotten 52 = .ok (.ireturn, 1) := by decide +kernel
theorem dX3_untilEmpty_0 : decode cX3_untilEmpty 0 = .ok (.aload_n 0, 1) := by decide +kernel
theorem dX3_untilEmpty_1 : decode cX3_untilEmpty 1 = .ok (.invokevirtual 44, 3) := by decide +kernel
theorem dX3_untilEmpty_4 : decode cX3_untilEmpty 4 = .ok (.iconst 0, 1) := by decide +kernel
theorem dX3_untilEmpty_5 : decode cX3_untilEmpty 5 = .ok (.istore_n 1, 1) := by decide +kernel
theorem dX3_untilEmpty_6 : decode cX3_untilEmpty 6 = .ok (.iload_n 1, 1) := by decide +kernel
theorem dX3_untilEmpty_7 : decode cX3_untilEmpty 7 = .ok (.bipush 99, 2) := by decide +kernel
theorem dX3_untilEmpty_9 : decode cX3_untilEmpty 9 = .ok (.if_icmp .gt 28, 3) := by decide +kernel
theorem dX3_untilEmpty_12 : decode cX3_untilEmpty 12 = .ok (.aload_n 0, 1) := by decide +kernel
theorem dX3_untilEmpty_13 : decode cX3_untilEmpty 13 = .ok (.getfield 34, 3) := by decide +kernel
theorem dX3_untilEmpty_16 : decode cX3_untilEmpty 16 = .ok (.invokevirtual 55, 3) := by decide +kernel
theorem dX3_untilEmpty_19 : decode cX3_untilEmpty 19 = .ok (.ifCond .ne 5, 3) := by decide +kernel
theorem dX3_untilEmpty_22 : decode cX3_untilEmpty 22 = .ok (.iload_n 1, 1) := by decide +kernel
theorem dX3_untilEmpty_23 : decode cX3_untilEmpty 23 = .ok (.ireturn, 1) := by decide +kernel
theorem dX3_untilEmpty_24 : decode cX3_untilEmpty 24 = .ok (.aload_n 0, 1) := by decide +kernel
theorem dX3_untilEmpty_25 : decode cX3_untilEmpty 25 = .ok (.getfield 34, 3) := by decide +kernel
theorem dX3_untilEmpty_28 : decode cX3_untilEmpty 28 = .ok (.invokevirtual 59, 3) := by decide +kernel
theorem dX3_untilEmpty_31 : decode cX3_untilEmpty 31 = .ok (.iinc 1 1, 3) := by decide +kernel
theorem dX3_untilEmpty_34 : decode cX3_untilEmpty 34 = .ok (.goto (-28), 3) := by decide +kernel
theorem dX3_untilEmpty_37 : decode cX3_untilEmpty 37 = .ok (.bipush 100, 2) := by decide +kernel
theorem dX3_untilEmpty_39 : decode cX3_untilEmpty 39 = .ok (.ireturn, 1) := by decide +kernel
theorem dX3_bestToSpeakTo_0 : decode cX3_bestToSpeakTo 0 = .ok (.bipush (-9), 2) := by decide +kernel
theorem dX3_bestToSpeakTo_2 : decode cX3_bestToSpeakTo 2 = .ok (.istore_n 2, 1) := by decide +kernel
theorem dX3_bestToSpeakTo_3 : decode cX3_bestToSpeakTo 3 = .ok (.aload_n 0, 1) := by decide +kernel
theorem dX3_bestToSpeakTo_4 : decode cX3_bestToSpeakTo 4 = .ok (.iload_n 1, 1) := by decide +kernel
theorem dX3_bestToSpeakTo_5 : decode cX3_bestToSpeakTo 5 = .ok (.invokevirtual 72, 3) := by decide +kernel
theorem dX3_bestToSpeakTo_8 : decode cX3_bestToSpeakTo 8 = .ok (.istore_n 3, 1) := by decide +kernel
theorem dX3_bestToSpeakTo_9 : decode cX3_bestToSpeakTo 9 = .ok (.iconst 0, 1) := by decide +kernel
theorem dX3_bestToSpeakTo_10 : decode cX3_bestToSpeakTo 10 = .ok (.istore 4, 2) := by decide +kernel
theorem dX3_bestToSpeakTo_12 : decode cX3_bestToSpeakTo 12 = .ok (.iload 4, 2) := by decide +kernel
theorem dX3_bestToSpeakTo_14 : decode cX3_bestToSpeakTo 14 = .ok (.aload_n 0, 1) := by decide +kernel
theorem dX3_bestToSpeakTo_15 : decode cX3_bestToSpeakTo 15 = .ok (.getfield 25, 3) := by decide +kernel
theorem dX3_bestToSpeakTo_18 : decode cX3_bestToSpeakTo 18 = .ok (.getfield 65, 3) := by decide +kernel
theorem dX3_bestToSpeakTo_21 : decode cX3_bestToSpeakTo 21 = .ok (.if_icmp .ge 58, 3) := by decide +kernel
theorem dX3_bestToSpeakTo_24 : decode cX3_bestToSpeakTo 24 = .ok (.aload_n 0, 1) := by decide +kernel
theorem dX3_bestToSpeakTo_25 : decode cX3_bestToSpeakTo 25 = .ok (.getfield 25, 3) := by decide +kernel
theorem dX3_bestToSpeakTo_28 : decode cX3_bestToSpeakTo 28 = .ok (.iload_n 1, 1) := by decide +kernel
theorem dX3_bestToSpeakTo_29 : decode cX3_bestToSpeakTo 29 = .ok (.iload 4, 2) := by decide +kernel
theorem dX3_bestToSpeakTo_31 : decode cX3_bestToSpeakTo 31 = .ok (.invokevirtual 75, 3) := by decide +kernel
theorem dX3_bestToSpeakTo_34 : decode cX3_bestToSpeakTo 34 = .ok (.ifCond .eq 39, 3) := by decide +kernel
theorem dX3_bestToSpeakTo_37 : decode cX3_bestToSpeakTo 37 = .ok (.aload_n 0, 1) := by decide +kernel
theorem dX3_bestToSpeakTo_38 : decode cX3_bestToSpeakTo 38 = .ok (.invokevirtual 44, 3) := by decide +kernel
theorem dX3_bestToSpeakTo_41 : decode cX3_bestToSpeakTo 41 = .ok (.aload_n 0, 1) := by decide +kernel
theorem dX3_bestToSpeakTo_42 : decode cX3_bestToSpeakTo 42 = .ok (.getfield 34, 3) := by decide +kernel
theorem dX3_bestToSpeakTo_45 : decode cX3_bestToSpeakTo 45 = .ok (.iload_n 1, 1) := by decide +kernel
theorem dX3_bestToSpeakTo_46 : decode cX3_bestToSpeakTo 46 = .ok (.iload 4, 2) := by decide +kernel
theorem dX3_bestToSpeakTo_48 : decode cX3_bestToSpeakTo 48 = .ok (.invokevirtual 79, 3) := by decide +kernel
theorem dX3_bestToSpeakTo_51 : decode cX3_bestToSpeakTo 51 = .ok (.aload_n 0, 1) := by decide +kernel
theorem dX3_bestToSpeakTo_52 : decode cX3_bestToSpeakTo 52 = .ok (.getfield 34, 3) := by decide +kernel
theorem dX3_bestToSpeakTo_55 : decode cX3_bestToSpeakTo 55 = .ok (.iload_n 1, 1) := by decide +kernel
theorem dX3_bestToSpeakTo_56 : decode cX3_bestToSpeakTo 56 = .ok (.invokevirtual 51, 3) := by decide +kernel
theorem dX3_bestToSpeakTo_59 : decode cX3_bestToSpeakTo 59 = .ok (.istore 5, 2) := by decide +kernel
theorem dX3_bestToSpeakTo_61 : decode cX3_bestToSpeakTo 61 = .ok (.iload 5, 2) := by decide +kernel
theorem dX3_bestToSpeakTo_63 : decode cX3_bestToSpeakTo 63 = .ok (.iload_n 3, 1) := by decide +kernel
theorem dX3_bestToSpeakTo_64 : decode cX3_bestToSpeakTo 64 = .ok (.if_icmp .le 9, 3) := by decide +kernel
theorem dX3_bestToSpeakTo_67 : decode cX3_bestToSpeakTo 67 = .ok (.iload 4, 2) := by decide +kernel
theorem dX3_bestToSpeakTo_69 : decode cX3_bestToSpeakTo 69 = .ok (.istore_n 2, 1) := by decide +kernel
theorem dX3_bestToSpeakTo_70 : decode cX3_bestToSpeakTo 70 = .ok (.iload 5, 2) := by decide +kernel
theorem dX3_bestToSpeakTo_72 : decode cX3_bestToSpeakTo 72 = .ok (.istore_n 3, 1) := by decide +kernel
theorem dX3_bestToSpeakTo_73 : decode cX3_bestToSpeakTo 73 = .ok (.iinc 4 1, 3) := by decide +kernel
theorem dX3_bestToSpeakTo_76 : decode cX3_bestToSpeakTo 76 = .ok (.goto (-64), 3) := by decide +kernel
theorem dX3_bestToSpeakTo_79 : decode cX3_bestToSpeakTo 79 = .ok (.iload_n 2, 1) := by decide +kernel
theorem dX3_bestToSpeakTo_80 : decode cX3_bestToSpeakTo 80 = .ok (.ireturn, 1) := by decide +kernel
theorem dX3_fewestTimes_0 : decode cX3_fewestTimes 0 = .ok (.iconst 0, 1) := by decide +kernel
theorem dX3_fewestTimes_1 : decode cX3_fewestTimes 1 = .ok (.istore_n 3, 1) := by decide +kernel
theorem dX3_fewestTimes_2 : decode cX3_fewestTimes 2 = .ok (.iload_n 3, 1) := by decide +kernel
theorem dX3_fewestTimes_3 : decode cX3_fewestTimes 3 = .ok (.iconst 3, 1) := by decide +kernel
theorem dX3_fewestTimes_4 : decode cX3_fewestTimes 4 = .ok (.if_icmp .gt 53, 3) := by decide +kernel
theorem dX3_fewestTimes_7 : decode cX3_fewestTimes 7 = .ok (.iconst 0, 1) := by decide +kernel
theorem dX3_fewestTimes_8 : decode cX3_fewestTimes 8 = .ok (.istore 4, 2) := by decide +kernel
theorem dX3_fewestTimes_10 : decode cX3_fewestTimes 10 = .ok (.iload 4, 2) := by decide +kernel
theorem dX3_fewestTimes_12 : decode cX3_fewestTimes 12 = .ok (.iconst 1, 1) := by decide +kernel
theorem dX3_fewestTimes_13 : decode cX3_fewestTimes 13 = .ok (.iconst 3, 1) := by decide +kernel
theorem dX3_fewestTimes_14 : decode cX3_fewestTimes 14 = .ok (.iload_n 3, 1) := by decide +kernel
theorem dX3_fewestTimes_15 : decode cX3_fewestTimes 15 = .ok (.imul, 1) := by decide +kernel
theorem dX3_fewestTimes_16 : decode cX3_fewestTimes 16 = .ok (.ishl, 1) := by decide +kernel
theorem dX3_fewestTimes_17 : decode cX3_fewestTimes 17 = .ok (.if_icmp .ge 34, 3) := by decide +kernel
theorem dX3_fewestTimes_20 : decode cX3_fewestTimes 20 = .ok (.aload_n 0, 1) := by decide +kernel
theorem dX3_fewestTimes_21 : decode cX3_fewestTimes 21 = .ok (.iload_n 1, 1) := by decide +kernel
theorem dX3_fewestTimes_22 : decode cX3_fewestTimes 22 = .ok (.iload_n 3, 1) := by decide +kernel
theorem dX3_fewestTimes_23 : decode cX3_fewestTimes 23 = .ok (.iload 4, 2) := by decide +kernel
theorem dX3_fewestTimes_25 : decode cX3_fewestTimes 25 = .ok (.invokevirtual 83, 3) := by decide +kernel
theorem dX3_fewestTimes_28 : decode cX3_fewestTimes 28 = .ok (.ifCond .eq 17, 3) := by decide +kernel
theorem dX3_fewestTimes_31 : decode cX3_fewestTimes 31 = .ok (.aload_n 0, 1) := by decide +kernel
theorem dX3_fewestTimes_32 : decode cX3_fewestTimes 32 = .ok (.iload_n 1, 1) := by decide +kernel
theorem dX3_fewestTimes_33 : decode cX3_fewestTimes 33 = .ok (.iload_n 2, 1) := by decide +kernel
theorem dX3_fewestTimes_34 : decode cX3_fewestTimes 34 = .ok (.iload_n 3, 1) := by decide +kernel
theorem dX3_fewestTimes_35 : decode cX3_fewestTimes 35 = .ok (.iload 4, 2) := by decide +kernel
theorem dX3_fewestTimes_37 : decode cX3_fewestTimes 37 = .ok (.invokevirtual 87, 3) := by decide +kernel
theorem dX3_fewestTimes_40 : decode cX3_fewestTimes 40 = .ok (.ifCond .eq 5, 3) := by decide +kernel
theorem dX3_fewestTimes_43 : decode cX3_fewestTimes 43 = .ok (.iload_n 3, 1) := by decide +kernel
theorem dX3_fewestTimes_44 : decode cX3_fewestTimes 44 = .ok (.ireturn, 1) := by decide +kernel
theorem dX3_fewestTimes_45 : decode cX3_fewestTimes 45 = .ok (.iinc 4 1, 3) := by decide +kernel
theorem dX3_fewestTimes_48 : decode cX3_fewestTimes 48 = .ok (.goto (-38), 3) := by decide +kernel
theorem dX3_fewestTimes_51 : decode cX3_fewestTimes 51 = .ok (.iinc 3 1, 3) := by decide +kernel
theorem dX3_fewestTimes_54 : decode cX3_fewestTimes 54 = .ok (.goto (-52), 3) := by decide +kernel
theorem dX3_fewestTimes_57 : decode cX3_fewestTimes 57 = .ok (.bipush (-9), 2) := by decide +kernel
theorem dX3_fewestTimes_59 : decode cX3_fewestTimes 59 = .ok (.ireturn, 1) := by decide +kernel
theorem dX3_areListeners_0 : decode cX3_areListeners 0 = .ok (.iconst 0, 1) := by decide +kernel
theorem dX3_areListeners_1 : decode cX3_areListeners 1 = .ok (.istore 4, 2) := by decide +kernel
theorem dX3_areListeners_3 : decode cX3_areListeners 3 = .ok (.iconst 0, 1) := by decide +kernel
theorem dX3_areListeners_4 : decode cX3_areListeners 4 = .ok (.istore 5, 2) := by decide +kernel
theorem dX3_areListeners_6 : decode cX3_areListeners 6 = .ok (.iload 5, 2) := by decide +kernel
theorem dX3_areListeners_8 : decode cX3_areListeners 8 = .ok (.iload_n 2, 1) := by decide +kernel
theorem dX3_areListeners_9 : decode cX3_areListeners 9 = .ok (.if_icmp .ge 43, 3) := by decide +kernel
theorem dX3_areListeners_12 : decode cX3_areListeners 12 = .ok (.iload_n 3, 1) := by decide +kernel
theorem dX3_areListeners_13 : decode cX3_areListeners 13 = .ok (.iload 5, 2) := by decide +kernel
theorem dX3_areListeners_15 : decode cX3_areListeners 15 = .ok (.invokestatic 91, 3) := by decide +kernel
theorem dX3_areListeners_18 : decode cX3_areListeners 18 = .ok (.istore 6, 2) := by decide +kernel
theorem dX3_areListeners_20 : decode cX3_areListeners 20 = .ok (.iload 6, 2) := by decide +kernel
theorem dX3_areListeners_22 : decode cX3_areListeners 22 = .ok (.iload 4, 2) := by decide +kernel
theorem dX3_areListeners_24 : decode cX3_areListeners 24 = .ok (.if_icmp .lt 16, 3) := by decide +kernel
theorem dX3_areListeners_27 : decode cX3_areListeners 27 = .ok (.aload_n 0, 1) := by decide +kernel
theorem dX3_areListeners_28 : decode cX3_areListeners 28 = .ok (.getfield 25, 3) := by decide +kernel
theorem dX3_areListeners_31 : decode cX3_areListeners 31 = .ok (.iload_n 1, 1) := by decide +kernel
theorem dX3_areListeners_32 : decode cX3_areListeners 32 = .ok (.iload 6, 2) := by decide +kernel
theorem dX3_areListeners_34 : decode cX3_areListeners 34 = .ok (.invokevirtual 75, 3) := by decide +kernel
theorem dX3_areListeners_37 : decode cX3_areListeners 37 = .ok (.ifCond .ne 5, 3) := by decide +kernel
theorem dX3_areListeners_40 : decode cX3_areListeners 40 = .ok (.iconst 0, 1) := by decide +kernel
theorem dX3_areListeners_41 : decode cX3_areListeners 41 = .ok (.ireturn, 1) := by decide +kernel
theorem dX3_areListeners_42 : decode cX3_areListeners 42 = .ok (.iload 6, 2) := by decide +kernel
theorem dX3_areListeners_44 : decode cX3_areListeners 44 = .ok (.istore 4, 2) := by decide +kernel
theorem dX3_areListeners_46 : decode cX3_areListeners 46 = .ok (.iinc 5 1, 3) := by decide +kernel
theorem dX3_areListeners_49 : decode cX3_areListeners 49 = .ok (.goto (-43), 3) := by decide +kernel
theorem dX3_areListeners_52 : decode cX3_areListeners 52 = .ok (.iconst 1, 1) := by decide +kernel
theorem dX3_areListeners_53 : decode cX3_areListeners 53 = .ok (.ireturn, 1) := by decide +kernel
theorem dX3_listenerAt_0 : decode cX3_listenerAt 0 = .ok (.iload_n 0, 1) := by decide +kernel
theorem dX3_listenerAt_1 : decode cX3_listenerAt 1 = .ok (.iconst 3, 1) := by decide +kernel
theorem dX3_listenerAt_2 : decode cX3_listenerAt 2 = .ok (.iload_n 1, 1) := by decide +kernel
theorem dX3_listenerAt_3 : decode cX3_listenerAt 3 = .ok (.imul, 1) := by decide +kernel
theorem dX3_listenerAt_4 : decode cX3_listenerAt 4 = .ok (.ishr, 1) := by decide +kernel
theorem dX3_listenerAt_5 : decode cX3_listenerAt 5 = .ok (.bipush 7, 2) := by decide +kernel
theorem dX3_listenerAt_7 : decode cX3_listenerAt 7 = .ok (.iand, 1) := by decide +kernel
theorem dX3_listenerAt_8 : decode cX3_listenerAt 8 = .ok (.ireturn, 1) := by decide +kernel
theorem dX3_isKeptBy_0 : decode cX3_isKeptBy 0 = .ok (.aload_n 0, 1) := by decide +kernel
theorem dX3_isKeptBy_1 : decode cX3_isKeptBy 1 = .ok (.invokevirtual 44, 3) := by decide +kernel
theorem dX3_isKeptBy_4 : decode cX3_isKeptBy 4 = .ok (.iconst 0, 1) := by decide +kernel
theorem dX3_isKeptBy_5 : decode cX3_isKeptBy 5 = .ok (.istore 5, 2) := by decide +kernel
theorem dX3_isKeptBy_7 : decode cX3_isKeptBy 7 = .ok (.iload 5, 2) := by decide +kernel
theorem dX3_isKeptBy_9 : decode cX3_isKeptBy 9 = .ok (.iload_n 3, 1) := by decide +kernel
theorem dX3_isKeptBy_10 : decode cX3_isKeptBy 10 = .ok (.if_icmp .ge 24, 3) := by decide +kernel
theorem dX3_isKeptBy_13 : decode cX3_isKeptBy 13 = .ok (.aload_n 0, 1) := by decide +kernel
theorem dX3_isKeptBy_14 : decode cX3_isKeptBy 14 = .ok (.getfield 34, 3) := by decide +kernel
theorem dX3_isKeptBy_17 : decode cX3_isKeptBy 17 = .ok (.iload_n 1, 1) := by decide +kernel
theorem dX3_isKeptBy_18 : decode cX3_isKeptBy 18 = .ok (.iload 4, 2) := by decide +kernel
theorem dX3_isKeptBy_20 : decode cX3_isKeptBy 20 = .ok (.iload 5, 2) := by decide +kernel
theorem dX3_isKeptBy_22 : decode cX3_isKeptBy 22 = .ok (.invokestatic 91, 3) := by decide +kernel
theorem dX3_isKeptBy_25 : decode cX3_isKeptBy 25 = .ok (.invokevirtual 79, 3) := by decide +kernel
theorem dX3_isKeptBy_28 : decode cX3_isKeptBy 28 = .ok (.iinc 5 1, 3) := by decide +kernel
theorem dX3_isKeptBy_31 : decode cX3_isKeptBy 31 = .ok (.goto (-24), 3) := by decide +kernel
theorem dX3_isKeptBy_34 : decode cX3_isKeptBy 34 = .ok (.aload_n 0, 1) := by decide +kernel
theorem dX3_isKeptBy_35 : decode cX3_isKeptBy 35 = .ok (.getfield 34, 3) := by decide +kernel
theorem dX3_isKeptBy_38 : decode cX3_isKeptBy 38 = .ok (.iload_n 1, 1) := by decide +kernel
theorem dX3_isKeptBy_39 : decode cX3_isKeptBy 39 = .ok (.iload_n 2, 1) := by decide +kernel
theorem dX3_isKeptBy_40 : decode cX3_isKeptBy 40 = .ok (.invokevirtual 95, 3) := by decide +kernel
theorem dX3_isKeptBy_43 : decode cX3_isKeptBy 43 = .ok (.ireturn, 1) := by decide +kernel
theorem dX3_bestAsDog_0 : decode cX3_bestAsDog 0 = .ok (.bipush (-9), 2) := by decide +kernel
theorem dX3_bestAsDog_2 : decode cX3_bestAsDog 2 = .ok (.istore_n 2, 1) := by decide +kernel
theorem dX3_bestAsDog_3 : decode cX3_bestAsDog 3 = .ok (.aload_n 0, 1) := by decide +kernel
theorem dX3_bestAsDog_4 : decode cX3_bestAsDog 4 = .ok (.iload_n 1, 1) := by decide +kernel
theorem dX3_bestAsDog_5 : decode cX3_bestAsDog 5 = .ok (.invokevirtual 98, 3) := by decide +kernel
theorem dX3_bestAsDog_8 : decode cX3_bestAsDog 8 = .ok (.invokevirtual 102, 3) := by decide +kernel
theorem dX3_bestAsDog_11 : decode cX3_bestAsDog 11 = .ok (.istore_n 3, 1) := by decide +kernel
theorem dX3_bestAsDog_12 : decode cX3_bestAsDog 12 = .ok (.iconst 0, 1) := by decide +kernel
theorem dX3_bestAsDog_13 : decode cX3_bestAsDog 13 = .ok (.istore 4, 2) := by decide +kernel
theorem dX3_bestAsDog_15 : decode cX3_bestAsDog 15 = .ok (.iload 4, 2) := by decide +kernel
theorem dX3_bestAsDog_17 : decode cX3_bestAsDog 17 = .ok (.aload_n 0, 1) := by decide +kernel
theorem dX3_bestAsDog_18 : decode cX3_bestAsDog 18 = .ok (.getfield 25, 3) := by decide +kernel
theorem dX3_bestAsDog_21 : decode cX3_bestAsDog 21 = .ok (.getfield 65, 3) := by decide +kernel
theorem dX3_bestAsDog_24 : decode cX3_bestAsDog 24 = .ok (.if_icmp .ge 67, 3) := by decide +kernel
theorem dX3_bestAsDog_27 : decode cX3_bestAsDog 27 = .ok (.aload_n 0, 1) := by decide +kernel
theorem dX3_bestAsDog_28 : decode cX3_bestAsDog 28 = .ok (.getfield 25, 3) := by decide +kernel
theorem dX3_bestAsDog_31 : decode cX3_bestAsDog 31 = .ok (.getfield 68, 3) := by decide +kernel
theorem dX3_bestAsDog_34 : decode cX3_bestAsDog 34 = .ok (.iload 4, 2) := by decide +kernel
theorem dX3_bestAsDog_36 : decode cX3_bestAsDog 36 = .ok (.baload, 1) := by decide +kernel
theorem dX3_bestAsDog_37 : decode cX3_bestAsDog 37 = .ok (.ifCond .eq 48, 3) := by decide +kernel
theorem dX3_bestAsDog_40 : decode cX3_bestAsDog 40 = .ok (.aload_n 0, 1) := by decide +kernel
theorem dX3_bestAsDog_41 : decode cX3_bestAsDog 41 = .ok (.invokevirtual 44, 3) := by decide +kernel
theorem dX3_bestAsDog_44 : decode cX3_bestAsDog 44 = .ok (.aload_n 0, 1) := by decide +kernel
theorem dX3_bestAsDog_45 : decode cX3_bestAsDog 45 = .ok (.getfield 34, 3) := by decide +kernel
theorem dX3_bestAsDog_48 : decode cX3_bestAsDog 48 = .ok (.getfield 105, 3) := by decide +kernel
theorem dX3_bestAsDog_51 : decode cX3_bestAsDog 51 = .ok (.iload 4, 2) := by decide +kernel
theorem dX3_bestAsDog_53 : decode cX3_bestAsDog 53 = .ok (.iconst 4, 1) := by decide +kernel
theorem dX3_bestAsDog_54 : decode cX3_bestAsDog 54 = .ok (.iastore, 1) := by decide +kernel
theorem dX3_bestAsDog_55 : decode cX3_bestAsDog 55 = .ok (.aload_n 0, 1) := by decide +kernel
theorem dX3_bestAsDog_56 : decode cX3_bestAsDog 56 = .ok (.getfield 34, 3) := by decide +kernel
theorem dX3_bestAsDog_59 : decode cX3_bestAsDog 59 = .ok (.iload_n 1, 1) := by decide +kernel
theorem dX3_bestAsDog_60 : decode cX3_bestAsDog 60 = .ok (.invokevirtual 47, 3) := by decide +kernel
theorem dX3_bestAsDog_63 : decode cX3_bestAsDog 63 = .ok (.aload_n 0, 1) := by decide +kernel
theorem dX3_bestAsDog_64 : decode cX3_bestAsDog 64 = .ok (.getfield 34, 3) := by decide +kernel
theorem dX3_bestAsDog_67 : decode cX3_bestAsDog 67 = .ok (.invokevirtual 102, 3) := by decide +kernel
theorem dX3_bestAsDog_70 : decode cX3_bestAsDog 70 = .ok (.iload_n 3, 1) := by decide +kernel
theorem dX3_bestAsDog_71 : decode cX3_bestAsDog 71 = .ok (.if_icmp .le 14, 3) := by decide +kernel
theorem dX3_bestAsDog_74 : decode cX3_bestAsDog 74 = .ok (.iload 4, 2) := by decide +kernel
theorem dX3_bestAsDog_76 : decode cX3_bestAsDog 76 = .ok (.istore_n 2, 1) := by decide +kernel
theorem dX3_bestAsDog_77 : decode cX3_bestAsDog 77 = .ok (.aload_n 0, 1) := by decide +kernel
theorem dX3_bestAsDog_78 : decode cX3_bestAsDog 78 = .ok (.getfield 34, 3) := by decide +kernel
theorem dX3_bestAsDog_81 : decode cX3_bestAsDog 81 = .ok (.invokevirtual 102, 3) := by decide +kernel
theorem dX3_bestAsDog_84 : decode cX3_bestAsDog 84 = .ok (.istore_n 3, 1) := by decide +kernel
theorem dX3_bestAsDog_85 : decode cX3_bestAsDog 85 = .ok (.iinc 4 1, 3) := by decide +kernel
theorem dX3_bestAsDog_88 : decode cX3_bestAsDog 88 = .ok (.goto (-73), 3) := by decide +kernel
theorem dX3_bestAsDog_91 : decode cX3_bestAsDog 91 = .ok (.iload_n 2, 1) := by decide +kernel
theorem dX3_bestAsDog_92 : decode cX3_bestAsDog 92 = .ok (.ireturn, 1) := by decide +kernel
theorem dX3_bestToBring_0 : decode cX3_bestToBring 0 = .ok (.bipush (-9), 2) := by decide +kernel
theorem dX3_bestToBring_2 : decode cX3_bestToBring 2 = .ok (.istore_n 1, 1) := by decide +kernel
theorem dX3_bestToBring_3 : decode cX3_bestToBring 3 = .ok (.iconst 0, 1) := by decide +kernel
theorem dX3_bestToBring_4 : decode cX3_bestToBring 4 = .ok (.istore_n 2, 1) := by decide +kernel
theorem dX3_bestToBring_5 : decode cX3_bestToBring 5 = .ok (.iconst 0, 1) := by decide +kernel
theorem dX3_bestToBring_6 : decode cX3_bestToBring 6 = .ok (.istore_n 3, 1) := by decide +kernel
theorem dX3_bestToBring_7 : decode cX3_bestToBring 7 = .ok (.iload_n 3, 1) := by decide +kernel
theorem dX3_bestToBring_8 : decode cX3_bestToBring 8 = .ok (.aload_n 0, 1) := by decide +kernel
theorem dX3_bestToBring_9 : decode cX3_bestToBring 9 = .ok (.getfield 25, 3) := by decide +kernel
theorem dX3_bestToBring_12 : decode cX3_bestToBring 12 = .ok (.getfield 65, 3) := by decide +kernel
theorem dX3_bestToBring_15 : decode cX3_bestToBring 15 = .ok (.if_icmp .ge 45, 3) := by decide +kernel
theorem dX3_bestToBring_18 : decode cX3_bestToBring 18 = .ok (.aload_n 0, 1) := by decide +kernel
theorem dX3_bestToBring_19 : decode cX3_bestToBring 19 = .ok (.getfield 25, 3) := by decide +kernel
theorem dX3_bestToBring_22 : decode cX3_bestToBring 22 = .ok (.getfield 68, 3) := by decide +kernel
theorem dX3_bestToBring_25 : decode cX3_bestToBring 25 = .ok (.iload_n 3, 1) := by decide +kernel
theorem dX3_bestToBring_26 : decode cX3_bestToBring 26 = .ok (.baload, 1) := by decide +kernel
theorem dX3_bestToBring_27 : decode cX3_bestToBring 27 = .ok (.ifCond .ne 27, 3) := by decide +kernel
theorem dX3_bestToBring_30 : decode cX3_bestToBring 30 = .ok (.aload_n 0, 1) := by decide +kernel
theorem dX3_bestToBring_31 : decode cX3_bestToBring 31 = .ok (.iload_n 3, 1) := by decide +kernel
theorem dX3_bestToBring_32 : decode cX3_bestToBring 32 = .ok (.invokevirtual 108, 3) := by decide +kernel
theorem dX3_bestToBring_35 : decode cX3_bestToBring 35 = .ok (.istore 4, 2) := by decide +kernel
theorem dX3_bestToBring_37 : decode cX3_bestToBring 37 = .ok (.iload_n 1, 1) := by decide +kernel
theorem dX3_bestToBring_38 : decode cX3_bestToBring 38 = .ok (.bipush (-9), 2) := by decide +kernel
theorem dX3_bestToBring_40 : decode cX3_bestToBring 40 = .ok (.if_icmp .eq 9, 3) := by decide +kernel
theorem dX3_bestToBring_43 : decode cX3_bestToBring 43 = .ok (.iload 4, 2) := by decide +kernel
theorem dX3_bestToBring_45 : decode cX3_bestToBring 45 = .ok (.iload_n 2, 1) := by decide +kernel
theorem dX3_bestToBring_46 : decode cX3_bestToBring 46 = .ok (.if_icmp .le 8, 3) := by decide +kernel
theorem dX3_bestToBring_49 : decode cX3_bestToBring 49 = .ok (.iload_n 3, 1) := by decide +kernel
theorem dX3_bestToBring_50 : decode cX3_bestToBring 50 = .ok (.istore_n 1, 1) := by decide +kernel
theorem dX3_bestToBring_51 : decode cX3_bestToBring 51 = .ok (.iload 4, 2) := by decide +kernel
theorem dX3_bestToBring_53 : decode cX3_bestToBring 53 = .ok (.istore_n 2, 1) := by decide +kernel
theorem dX3_bestToBring_54 : decode cX3_bestToBring 54 = .ok (.iinc 3 1, 3) := by decide +kernel
theorem dX3_bestToBring_57 : decode cX3_bestToBring 57 = .ok (.goto (-50), 3) := by decide +kernel
theorem dX3_bestToBring_60 : decode cX3_bestToBring 60 = .ok (.iload_n 1, 1) := by decide +kernel
theorem dX3_bestToBring_61 : decode cX3_bestToBring 61 = .ok (.ireturn, 1) := by decide +kernel
theorem dX3_weeksIfBack_0 : decode cX3_weeksIfBack 0 = .ok (.aload_n 0, 1) := by decide +kernel
theorem dX3_weeksIfBack_1 : decode cX3_weeksIfBack 1 = .ok (.invokevirtual 44, 3) := by decide +kernel
theorem dX3_weeksIfBack_4 : decode cX3_weeksIfBack 4 = .ok (.aload_n 0, 1) := by decide +kernel
theorem dX3_weeksIfBack_5 : decode cX3_weeksIfBack 5 = .ok (.getfield 34, 3) := by decide +kernel
theorem dX3_weeksIfBack_8 : decode cX3_weeksIfBack 8 = .ok (.iload_n 1, 1) := by decide +kernel
theorem dX3_weeksIfBack_9 : decode cX3_weeksIfBack 9 = .ok (.invokevirtual 111, 3) := by decide +kernel
theorem dX3_weeksIfBack_12 : decode cX3_weeksIfBack 12 = .ok (.bipush 99, 2) := by decide +kernel
theorem dX3_weeksIfBack_14 : decode cX3_weeksIfBack 14 = .ok (.aload_n 0, 1) := by decide +kernel
theorem dX3_weeksIfBack_15 : decode cX3_weeksIfBack 15 = .ok (.getfield 34, 3) := by decide +kernel
theorem dX3_weeksIfBack_18 : decode cX3_weeksIfBack 18 = .ok (.iload_n 1, 1) := by decide +kernel
theorem dX3_weeksIfBack_19 : decode cX3_weeksIfBack 19 = .ok (.invokevirtual 51, 3) := by decide +kernel
theorem dX3_weeksIfBack_22 : decode cX3_weeksIfBack 22 = .ok (.invokestatic 114, 3) := by decide +kernel
theorem dX3_weeksIfBack_25 : decode cX3_weeksIfBack 25 = .ok (.ireturn, 1) := by decide +kernel
theorem dX3_largestLeague_0 : decode cX3_largestLeague 0 = .ok (.iconst 0, 1) := by decide +kernel
theorem dX3_largestLeague_1 : decode cX3_largestLeague 1 = .ok (.istore_n 1, 1) := by decide +kernel
theorem dX3_largestLeague_2 : decode cX3_largestLeague 2 = .ok (.iload_n 1, 1) := by decide +kernel
theorem dX3_largestLeague_3 : decode cX3_largestLeague 3 = .ok (.aload_n 0, 1) := by decide +kernel
theorem dX3_largestLeague_4 : decode cX3_largestLeague 4 = .ok (.getfield 25, 3) := by decide +kernel
theorem dX3_largestLeague_7 : decode cX3_largestLeague 7 = .ok (.getfield 65, 3) := by decide +kernel
theorem dX3_largestLeague_10 : decode cX3_largestLeague 10 = .ok (.if_icmp .ge 23, 3) := by decide +kernel
theorem dX3_largestLeague_13 : decode cX3_largestLeague 13 = .ok (.aload_n 0, 1) := by decide +kernel
theorem dX3_largestLeague_14 : decode cX3_largestLeague 14 = .ok (.getfield 9, 3) := by decide +kernel
theorem dX3_largestLeague_17 : decode cX3_largestLeague 17 = .ok (.iload_n 1, 1) := by decide +kernel
theorem dX3_largestLeague_18 : decode cX3_largestLeague 18 = .ok (.aload_n 0, 1) := by decide +kernel
theorem dX3_largestLeague_19 : decode cX3_largestLeague 19 = .ok (.getfield 25, 3) := by decide +kernel
theorem dX3_largestLeague_22 : decode cX3_largestLeague 22 = .ok (.iload_n 1, 1) := by decide +kernel
theorem dX3_largestLeague_23 : decode cX3_largestLeague 23 = .ok (.invokevirtual 119, 3) := by decide +kernel
theorem dX3_largestLeague_26 : decode cX3_largestLeague 26 = .ok (.iastore, 1) := by decide +kernel
theorem dX3_largestLeague_27 : decode cX3_largestLeague 27 = .ok (.iinc 1 1, 3) := by decide +kernel
theorem dX3_largestLeague_30 : decode cX3_largestLeague 30 = .ok (.goto (-28), 3) := by decide +kernel
theorem dX3_largestLeague_33 : decode cX3_largestLeague 33 = .ok (.iconst 0, 1) := by decide +kernel
theorem dX3_largestLeague_34 : decode cX3_largestLeague 34 = .ok (.istore_n 1, 1) := by decide +kernel
theorem dX3_largestLeague_35 : decode cX3_largestLeague 35 = .ok (.iconst 1, 1) := by decide +kernel
theorem dX3_largestLeague_36 : decode cX3_largestLeague 36 = .ok (.istore_n 2, 1) := by decide +kernel
theorem dX3_largestLeague_37 : decode cX3_largestLeague 37 = .ok (.iload_n 2, 1) := by decide +kernel
theorem dX3_largestLeague_38 : decode cX3_largestLeague 38 = .ok (.iconst 1, 1) := by decide +kernel
theorem dX3_largestLeague_39 : decode cX3_largestLeague 39 = .ok (.aload_n 0, 1) := by decide +kernel
theorem dX3_largestLeague_40 : decode cX3_largestLeague 40 = .ok (.getfield 25, 3) := by decide +kernel
theorem dX3_largestLeague_43 : decode cX3_largestLeague 43 = .ok (.getfield 65, 3) := by decide +kernel
theorem dX3_largestLeague_46 : decode cX3_largestLeague 46 = .ok (.ishl, 1) := by decide +kernel
theorem dX3_largestLeague_47 : decode cX3_largestLeague 47 = .ok (.if_icmp .ge 30, 3) := by decide +kernel
theorem dX3_largestLeague_50 : decode cX3_largestLeague 50 = .ok (.iload_n 2, 1) := by decide +kernel
theorem dX3_largestLeague_51 : decode cX3_largestLeague 51 = .ok (.invokestatic 122, 3) := by decide +kernel
theorem dX3_largestLeague_54 : decode cX3_largestLeague 54 = .ok (.iload_n 1, 1) := by decide +kernel
theorem dX3_largestLeague_55 : decode cX3_largestLeague 55 = .ok (.invokestatic 122, 3) := by decide +kernel
theorem dX3_largestLeague_58 : decode cX3_largestLeague 58 = .ok (.if_icmp .le 13, 3) := by decide +kernel
theorem dX3_largestLeague_61 : decode cX3_largestLeague 61 = .ok (.aload_n 0, 1) := by decide +kernel
theorem dX3_largestLeague_62 : decode cX3_largestLeague 62 = .ok (.iload_n 2, 1) := by decide +kernel
theorem dX3_largestLeague_63 : decode cX3_largestLeague 63 = .ok (.invokevirtual 127, 3) := by decide +kernel
theorem dX3_largestLeague_66 : decode cX3_largestLeague 66 = .ok (.ifCond .eq 5, 3) := by decide +kernel
theorem dX3_largestLeague_69 : decode cX3_largestLeague 69 = .ok (.iload_n 2, 1) := by decide +kernel
theorem dX3_largestLeague_70 : decode cX3_largestLeague 70 = .ok (.istore_n 1, 1) := by decide +kernel
theorem dX3_largestLeague_71 : decode cX3_largestLeague 71 = .ok (.iinc 2 1, 3) := by decide +kernel
theorem dX3_largestLeague_74 : decode cX3_largestLeague 74 = .ok (.goto (-37), 3) := by decide +kernel
theorem dX3_largestLeague_77 : decode cX3_largestLeague 77 = .ok (.iload_n 1, 1) := by decide +kernel
theorem dX3_largestLeague_78 : decode cX3_largestLeague 78 = .ok (.ireturn, 1) := by decide +kernel
theorem dX3_isLeague_0 : decode cX3_isLeague 0 = .ok (.iconst 0, 1) := by decide +kernel
theorem dX3_isLeague_1 : decode cX3_isLeague 1 = .ok (.istore_n 2, 1) := by decide +kernel
theorem dX3_isLeague_2 : decode cX3_isLeague 2 = .ok (.iload_n 2, 1) := by decide +kernel
theorem dX3_isLeague_3 : decode cX3_isLeague 3 = .ok (.aload_n 0, 1) := by decide +kernel
theorem dX3_isLeague_4 : decode cX3_isLeague 4 = .ok (.getfield 25, 3) := by decide +kernel
theorem dX3_isLeague_7 : decode cX3_isLeague 7 = .ok (.getfield 65, 3) := by decide +kernel
theorem dX3_isLeague_10 : decode cX3_isLeague 10 = .ok (.if_icmp .ge 60, 3) := by decide +kernel
theorem dX3_isLeague_13 : decode cX3_isLeague 13 = .ok (.iconst 1, 1) := by decide +kernel
theorem dX3_isLeague_14 : decode cX3_isLeague 14 = .ok (.iload_n 2, 1) := by decide +kernel
theorem dX3_isLeague_15 : decode cX3_isLeague 15 = .ok (.ishl, 1) := by decide +kernel
theorem dX3_isLeague_16 : decode cX3_isLeague 16 = .ok (.istore_n 3, 1) := by decide +kernel
theorem dX3_isLeague_17 : decode cX3_isLeague 17 = .ok (.iload_n 1, 1) := by decide +kernel
theorem dX3_isLeague_18 : decode cX3_isLeague 18 = .ok (.iload_n 3, 1) := by decide +kernel
theorem dX3_isLeague_19 : decode cX3_isLeague 19 = .ok (.iand, 1) := by decide +kernel
theorem dX3_isLeague_20 : decode cX3_isLeague 20 = .ok (.ifCond .eq 7, 3) := by decide +kernel
theorem dX3_isLeague_23 : decode cX3_isLeague 23 = .ok (.iconst 1, 1) := by decide +kernel
theorem dX3_isLeague_24 : decode cX3_isLeague 24 = .ok (.goto 4, 3) := by decide +kernel
theorem dX3_isLeague_27 : decode cX3_isLeague 27 = .ok (.iconst 0, 1) := by decide +kernel
theorem dX3_isLeague_28 : decode cX3_isLeague 28 = .ok (.istore 4, 2) := by decide +kernel
theorem dX3_isLeague_30 : decode cX3_isLeague 30 = .ok (.iload 4, 2) := by decide +kernel
theorem dX3_isLeague_32 : decode cX3_isLeague 32 = .ok (.ifCond .eq 32, 3) := by decide +kernel
theorem dX3_isLeague_35 : decode cX3_isLeague 35 = .ok (.aload_n 0, 1) := by decide +kernel
theorem dX3_isLeague_36 : decode cX3_isLeague 36 = .ok (.getfield 25, 3) := by decide +kernel
theorem dX3_isLeague_39 : decode cX3_isLeague 39 = .ok (.getfield 68, 3) := by decide +kernel
theorem dX3_isLeague_42 : decode cX3_isLeague 42 = .ok (.iload_n 2, 1) := by decide +kernel
theorem dX3_isLeague_43 : decode cX3_isLeague 43 = .ok (.baload, 1) := by decide +kernel
theorem dX3_isLeague_44 : decode cX3_isLeague 44 = .ok (.ifCond .eq 18, 3) := by decide +kernel
theorem dX3_isLeague_47 : decode cX3_isLeague 47 = .ok (.iload_n 1, 1) := by decide +kernel
theorem dX3_isLeague_48 : decode cX3_isLeague 48 = .ok (.aload_n 0, 1) := by decide +kernel
theorem dX3_isLeague_49 : decode cX3_isLeague 49 = .ok (.getfield 9, 3) := by decide +kernel
theorem dX3_isLeague_52 : decode cX3_isLeague 52 = .ok (.iload_n 2, 1) := by decide +kernel
theorem dX3_isLeague_53 : decode cX3_isLeague 53 = .ok (.iaload, 1) := by decide +kernel
theorem dX3_isLeague_54 : decode cX3_isLeague 54 = .ok (.iload_n 3, 1) := by decide +kernel
theorem dX3_isLeague_55 : decode cX3_isLeague 55 = .ok (.ior, 1) := by decide +kernel
theorem dX3_isLeague_56 : decode cX3_isLeague 56 = .ok (.iconst (-1), 1) := by decide +kernel
theorem dX3_isLeague_57 : decode cX3_isLeague 57 = .ok (.ixor, 1) := by decide +kernel
theorem dX3_isLeague_58 : decode cX3_isLeague 58 = .ok (.iand, 1) := by decide +kernel
theorem dX3_isLeague_59 : decode cX3_isLeague 59 = .ok (.ifCond .eq 5, 3) := by decide +kernel
theorem dX3_isLeague_62 : decode cX3_isLeague 62 = .ok (.iconst 0, 1) := by decide +kernel
theorem dX3_isLeague_63 : decode cX3_isLeague 63 = .ok (.ireturn, 1) := by decide +kernel
theorem dX3_isLeague_64 : decode cX3_isLeague 64 = .ok (.iinc 2 1, 3) := by decide +kernel
theorem dX3_isLeague_67 : decode cX3_isLeague 67 = .ok (.goto (-65), 3) := by decide +kernel
theorem dX3_isLeague_70 : decode cX3_isLeague 70 = .ok (.iconst 1, 1) := by decide +kernel
theorem dX3_isLeague_71 : decode cX3_isLeague 71 = .ok (.ireturn, 1) := by decide +kernel
theorem dX3_powerOf_0 : decode cX3_powerOf 0 = .ok (.aload_n 0, 1) := by decide +kernel
theorem dX3_powerOf_1 : decode cX3_powerOf 1 = .ok (.invokevirtual 44, 3) := by decide +kernel
theorem dX3_powerOf_4 : decode cX3_powerOf 4 = .ok (.aload_n 0, 1) := by decide +kernel
theorem dX3_powerOf_5 : decode cX3_powerOf 5 = .ok (.getfield 37, 3) := by decide +kernel
theorem dX3_powerOf_8 : decode cX3_powerOf 8 = .ok (.aload_n 0, 1) := by decide +kernel
theorem dX3_powerOf_9 : decode cX3_powerOf 9 = .ok (.getfield 25, 3) := by decide +kernel
theorem dX3_powerOf_12 : decode cX3_powerOf 12 = .ok (.invokevirtual 40, 3) := by decide +kernel
theorem dX3_powerOf_15 : decode cX3_powerOf 15 = .ok (.aload_n 0, 1) := by decide +kernel
theorem dX3_powerOf_16 : decode cX3_powerOf 16 = .ok (.getfield 37, 3) := by decide +kernel
theorem dX3_powerOf_19 : decode cX3_powerOf 19 = .ok (.iload_n 1, 1) := by decide +kernel
theorem dX3_powerOf_20 : decode cX3_powerOf 20 = .ok (.invokevirtual 131, 3) := by decide +kernel
theorem dX3_powerOf_23 : decode cX3_powerOf 23 = .ok (.iconst 0, 1) := by decide +kernel
theorem dX3_powerOf_24 : decode cX3_powerOf 24 = .ok (.istore_n 3, 1) := by decide +kernel
theorem dX3_powerOf_25 : decode cX3_powerOf 25 = .ok (.iconst 0, 1) := by decide +kernel
theorem dX3_powerOf_26 : decode cX3_powerOf 26 = .ok (.istore 4, 2) := by decide +kernel
theorem dX3_powerOf_28 : decode cX3_powerOf 28 = .ok (.iload 4, 2) := by decide +kernel
theorem dX3_powerOf_30 : decode cX3_powerOf 30 = .ok (.iload_n 2, 1) := by decide +kernel
theorem dX3_powerOf_31 : decode cX3_powerOf 31 = .ok (.if_icmp .ge 48, 3) := by decide +kernel
theorem dX3_powerOf_34 : decode cX3_powerOf 34 = .ok (.aload_n 0, 1) := by decide +kernel
theorem dX3_powerOf_35 : decode cX3_powerOf 35 = .ok (.getfield 34, 3) := by decide +kernel
theorem dX3_powerOf_38 : decode cX3_powerOf 38 = .ok (.invokevirtual 59, 3) := by decide +kernel
theorem dX3_powerOf_41 : decode cX3_powerOf 41 = .ok (.aload_n 0, 1) := by decide +kernel
theorem dX3_powerOf_42 : decode cX3_powerOf 42 = .ok (.getfield 37, 3) := by decide +kernel
theorem dX3_powerOf_45 : decode cX3_powerOf 45 = .ok (.invokevirtual 59, 3) := by decide +kernel
theorem dX3_powerOf_48 : decode cX3_powerOf 48 = .ok (.iload_n 3, 1) := by decide +kernel
theorem dX3_powerOf_49 : decode cX3_powerOf 49 = .ok (.aload_n 0, 1) := by decide +kernel
theorem dX3_powerOf_50 : decode cX3_powerOf 50 = .ok (.getfield 34, 3) := by decide +kernel
theorem dX3_powerOf_53 : decode cX3_powerOf 53 = .ok (.invokevirtual 134, 3) := by decide +kernel
theorem dX3_powerOf_56 : decode cX3_powerOf 56 = .ok (.aload_n 0, 1) := by decide +kernel
theorem dX3_powerOf_57 : decode cX3_powerOf 57 = .ok (.getfield 37, 3) := by decide +kernel
theorem dX3_powerOf_60 : decode cX3_powerOf 60 = .ok (.invokevirtual 134, 3) := by decide +kernel
theorem dX3_powerOf_63 : decode cX3_powerOf 63 = .ok (.if_icmp .eq 7, 3) := by decide +kernel
theorem dX3_powerOf_66 : decode cX3_powerOf 66 = .ok (.iconst 1, 1) := by decide +kernel
theorem dX3_powerOf_67 : decode cX3_powerOf 67 = .ok (.goto 4, 3) := by decide +kernel
theorem dX3_powerOf_70 : decode cX3_powerOf 70 = .ok (.iconst 0, 1) := by decide +kernel
theorem dX3_powerOf_71 : decode cX3_powerOf 71 = .ok (.iadd, 1) := by decide +kernel
theorem dX3_powerOf_72 : decode cX3_powerOf 72 = .ok (.istore_n 3, 1) := by decide +kernel
theorem dX3_powerOf_73 : decode cX3_powerOf 73 = .ok (.iinc 4 1, 3) := by decide +kernel
theorem dX3_powerOf_76 : decode cX3_powerOf 76 = .ok (.goto (-48), 3) := by decide +kernel
theorem dX3_powerOf_79 : decode cX3_powerOf 79 = .ok (.iload_n 3, 1) := by decide +kernel
theorem dX3_powerOf_80 : decode cX3_powerOf 80 = .ok (.ireturn, 1) := by decide +kernel
theorem dX3_debtsVoid_0 : decode cX3_debtsVoid 0 = .ok (.aload_n 0, 1) := by decide +kernel
theorem dX3_debtsVoid_1 : decode cX3_debtsVoid 1 = .ok (.getfield 25, 3) := by decide +kernel
theorem dX3_debtsVoid_4 : decode cX3_debtsVoid 4 = .ok (.invokevirtual 55, 3) := by decide +kernel
theorem dX3_debtsVoid_7 : decode cX3_debtsVoid 7 = .ok (.aload_n 0, 1) := by decide +kernel
theorem dX3_debtsVoid_8 : decode cX3_debtsVoid 8 = .ok (.iload_n 1, 1) := by decide +kernel
theorem dX3_debtsVoid_9 : decode cX3_debtsVoid 9 = .ok (.invokevirtual 98, 3) := by decide +kernel
theorem dX3_debtsVoid_12 : decode cX3_debtsVoid 12 = .ok (.invokevirtual 55, 3) := by decide +kernel
theorem dX3_debtsVoid_15 : decode cX3_debtsVoid 15 = .ok (.iconst (-1), 1) := by decide +kernel
theorem dX3_debtsVoid_16 : decode cX3_debtsVoid 16 = .ok (.ixor, 1) := by decide +kernel
theorem dX3_debtsVoid_17 : decode cX3_debtsVoid 17 = .ok (.iand, 1) := by decide +kernel
theorem dX3_debtsVoid_18 : decode cX3_debtsVoid 18 = .ok (.istore_n 2, 1) := by decide +kernel
theorem dX3_debtsVoid_19 : decode cX3_debtsVoid 19 = .ok (.iconst 0, 1) := by decide +kernel
theorem dX3_debtsVoid_20 : decode cX3_debtsVoid 20 = .ok (.istore_n 3, 1) := by decide +kernel
theorem dX3_debtsVoid_21 : decode cX3_debtsVoid 21 = .ok (.iconst 0, 1) := by decide +kernel
theorem dX3_debtsVoid_22 : decode cX3_debtsVoid 22 = .ok (.istore 4, 2) := by decide +kernel
theorem dX3_debtsVoid_24 : decode cX3_debtsVoid 24 = .ok (.iload 4, 2) := by decide +kernel
theorem dX3_debtsVoid_26 : decode cX3_debtsVoid 26 = .ok (.aload_n 0, 1) := by decide +kernel
theorem dX3_debtsVoid_27 : decode cX3_debtsVoid 27 = .ok (.getfield 25, 3) := by decide +kernel
theorem dX3_debtsVoid_30 : decode cX3_debtsVoid 30 = .ok (.getfield 65, 3) := by decide +kernel
theorem dX3_debtsVoid_33 : decode cX3_debtsVoid 33 = .ok (.if_icmp .ge 36, 3) := by decide +kernel
theorem dX3_debtsVoid_36 : decode cX3_debtsVoid 36 = .ok (.iload_n 3, 1) := by decide +kernel
theorem dX3_debtsVoid_37 : decode cX3_debtsVoid 37 = .ok (.iload_n 2, 1) := by decide +kernel
theorem dX3_debtsVoid_38 : decode cX3_debtsVoid 38 = .ok (.iload 4, 2) := by decide +kernel
theorem dX3_debtsVoid_40 : decode cX3_debtsVoid 40 = .ok (.ishr, 1) := by decide +kernel
theorem dX3_debtsVoid_41 : decode cX3_debtsVoid 41 = .ok (.iconst 1, 1) := by decide +kernel
theorem dX3_debtsVoid_42 : decode cX3_debtsVoid 42 = .ok (.iand, 1) := by decide +kernel
theorem dX3_debtsVoid_43 : decode cX3_debtsVoid 43 = .ok (.iconst 1, 1) := by decide +kernel
theorem dX3_debtsVoid_44 : decode cX3_debtsVoid 44 = .ok (.if_icmp .ne 16, 3) := by decide +kernel
theorem dX3_debtsVoid_47 : decode cX3_debtsVoid 47 = .ok (.aload_n 0, 1) := by decide +kernel
theorem dX3_debtsVoid_48 : decode cX3_debtsVoid 48 = .ok (.getfield 25, 3) := by decide +kernel
theorem dX3_debtsVoid_51 : decode cX3_debtsVoid 51 = .ok (.getfield 137, 3) := by decide +kernel
theorem dX3_debtsVoid_54 : decode cX3_debtsVoid 54 = .ok (.iload 4, 2) := by decide +kernel
theorem dX3_debtsVoid_56 : decode cX3_debtsVoid 56 = .ok (.iaload, 1) := by decide +kernel
theorem dX3_debtsVoid_57 : decode cX3_debtsVoid 57 = .ok (.goto 4, 3) := by decide +kernel
theorem dX3_debtsVoid_60 : decode cX3_debtsVoid 60 = .ok (.iconst 0, 1) := by decide +kernel
theorem dX3_debtsVoid_61 : decode cX3_debtsVoid 61 = .ok (.iadd, 1) := by decide +kernel
theorem dX3_debtsVoid_62 : decode cX3_debtsVoid 62 = .ok (.istore_n 3, 1) := by decide +kernel
theorem dX3_debtsVoid_63 : decode cX3_debtsVoid 63 = .ok (.iinc 4 1, 3) := by decide +kernel
theorem dX3_debtsVoid_66 : decode cX3_debtsVoid 66 = .ok (.goto (-42), 3) := by decide +kernel
theorem dX3_debtsVoid_69 : decode cX3_debtsVoid 69 = .ok (.iload_n 3, 1) := by decide +kernel
theorem dX3_debtsVoid_70 : decode cX3_debtsVoid 70 = .ok (.ireturn, 1) := by decide +kernel
theorem dX3_settled_0 : decode cX3_settled 0 = .ok (.iconst 0, 1) := by decide +kernel
theorem dX3_settled_1 : decode cX3_settled 1 = .ok (.istore 4, 2) := by decide +kernel
theorem dX3_settled_3 : decode cX3_settled 3 = .ok (.iload 4, 2) := by decide +kernel
theorem dX3_settled_5 : decode cX3_settled 5 = .ok (.iconst 4, 1) := by decide +kernel
theorem dX3_settled_6 : decode cX3_settled 6 = .ok (.if_icmp .ge 18, 3) := by decide +kernel
theorem dX3_settled_9 : decode cX3_settled 9 = .ok (.aload_n 0, 1) := by decide +kernel
theorem dX3_settled_10 : decode cX3_settled 10 = .ok (.iload_n 1, 1) := by decide +kernel
theorem dX3_settled_11 : decode cX3_settled 11 = .ok (.iload_n 2, 1) := by decide +kernel
theorem dX3_settled_12 : decode cX3_settled 12 = .ok (.iload_n 3, 1) := by decide +kernel
theorem dX3_settled_13 : decode cX3_settled 13 = .ok (.iload 4, 2) := by decide +kernel
theorem dX3_settled_15 : decode cX3_settled 15 = .ok (.invokevirtual 140, 3) := by decide +kernel
theorem dX3_settled_18 : decode cX3_settled 18 = .ok (.iinc 4 1, 3) := by decide +kernel
theorem dX3_settled_21 : decode cX3_settled 21 = .ok (.goto (-18), 3) := by decide +kernel
theorem dX3_settled_24 : decode cX3_settled 24 = .ok (.iconst 0, 1) := by decide +kernel
theorem dX3_settled_25 : decode cX3_settled 25 = .ok (.istore 4, 2) := by decide +kernel
theorem dX3_settled_27 : decode cX3_settled 27 = .ok (.iload 4, 2) := by decide +kernel
theorem dX3_settled_29 : decode cX3_settled 29 = .ok (.iconst 4, 1) := by decide +kernel
theorem dX3_settled_30 : decode cX3_settled 30 = .ok (.if_icmp .ge 60, 3) := by decide +kernel
theorem dX3_settled_33 : decode cX3_settled 33 = .ok (.aload_n 0, 1) := by decide +kernel
theorem dX3_settled_34 : decode cX3_settled 34 = .ok (.getfield 15, 3) := by decide +kernel
theorem dX3_settled_37 : decode cX3_settled 37 = .ok (.iload 4, 2) := by decide +kernel
theorem dX3_settled_39 : decode cX3_settled 39 = .ok (.iaload, 1) := by decide +kernel
theorem dX3_settled_40 : decode cX3_settled 40 = .ok (.aload_n 0, 1) := by decide +kernel
theorem dX3_settled_41 : decode cX3_settled 41 = .ok (.getfield 15, 3) := by decide +kernel
theorem dX3_settled_44 : decode cX3_settled 44 = .ok (.iload 4, 2) := by decide +kernel
theorem dX3_settled_46 : decode cX3_settled 46 = .ok (.iconst 2, 1) := by decide +kernel
theorem dX3_settled_47 : decode cX3_settled 47 = .ok (.ixor, 1) := by decide +kernel
theorem dX3_settled_48 : decode cX3_settled 48 = .ok (.iaload, 1) := by decide +kernel
theorem dX3_settled_49 : decode cX3_settled 49 = .ok (.if_icmp .lt 35, 3) := by decide +kernel
theorem dX3_settled_52 : decode cX3_settled 52 = .ok (.aload_n 0, 1) := by decide +kernel
theorem dX3_settled_53 : decode cX3_settled 53 = .ok (.getfield 18, 3) := by decide +kernel
theorem dX3_settled_56 : decode cX3_settled 56 = .ok (.iload 4, 2) := by decide +kernel
theorem dX3_settled_58 : decode cX3_settled 58 = .ok (.iaload, 1) := by decide +kernel
theorem dX3_settled_59 : decode cX3_settled 59 = .ok (.aload_n 0, 1) := by decide +kernel
theorem dX3_settled_60 : decode cX3_settled 60 = .ok (.getfield 18, 3) := by decide +kernel
theorem dX3_settled_63 : decode cX3_settled 63 = .ok (.iload 4, 2) := by decide +kernel
theorem dX3_settled_65 : decode cX3_settled 65 = .ok (.iconst 1, 1) := by decide +kernel
theorem dX3_settled_66 : decode cX3_settled 66 = .ok (.ixor, 1) := by decide +kernel
theorem dX3_settled_67 : decode cX3_settled 67 = .ok (.iaload, 1) := by decide +kernel
theorem dX3_settled_68 : decode cX3_settled 68 = .ok (.if_icmp .lt 16, 3) := by decide +kernel
theorem dX3_settled_71 : decode cX3_settled 71 = .ok (.bipush 10, 2) := by decide +kernel
theorem dX3_settled_73 : decode cX3_settled 73 = .ok (.iload 4, 2) := by decide +kernel
theorem dX3_settled_75 : decode cX3_settled 75 = .ok (.iconst 1, 1) := by decide +kernel
theorem dX3_settled_76 : decode cX3_settled 76 = .ok (.ishr, 1) := by decide +kernel
theorem dX3_settled_77 : decode cX3_settled 77 = .ok (.imul, 1) := by decide +kernel
theorem dX3_settled_78 : decode cX3_settled 78 = .ok (.iload 4, 2) := by decide +kernel
theorem dX3_settled_80 : decode cX3_settled 80 = .ok (.iconst 1, 1) := by decide +kernel
theorem dX3_settled_81 : decode cX3_settled 81 = .ok (.iand, 1) := by decide +kernel
theorem dX3_settled_82 : decode cX3_settled 82 = .ok (.iadd, 1) := by decide +kernel
theorem dX3_settled_83 : decode cX3_settled 83 = .ok (.ireturn, 1) := by decide +kernel
theorem dX3_settled_84 : decode cX3_settled 84 = .ok (.iinc 4 1, 3) := by decide +kernel
theorem dX3_settled_87 : decode cX3_settled 87 = .ok (.goto (-60), 3) := by decide +kernel
theorem dX3_settled_90 : decode cX3_settled 90 = .ok (.bipush (-9), 2) := by decide +kernel
theorem dX3_settled_92 : decode cX3_settled 92 = .ok (.ireturn, 1) := by decide +kernel
theorem dX3_weighPair_0 : decode cX3_weighPair 0 = .ok (.iload 4, 2) := by decide +kernel
theorem dX3_weighPair_2 : decode cX3_weighPair 2 = .ok (.iconst 1, 1) := by decide +kernel
theorem dX3_weighPair_3 : decode cX3_weighPair 3 = .ok (.ishr, 1) := by decide +kernel
theorem dX3_weighPair_4 : decode cX3_weighPair 4 = .ok (.istore 5, 2) := by decide +kernel
theorem dX3_weighPair_6 : decode cX3_weighPair 6 = .ok (.iload 4, 2) := by decide +kernel
theorem dX3_weighPair_8 : decode cX3_weighPair 8 = .ok (.iconst 1, 1) := by decide +kernel
theorem dX3_weighPair_9 : decode cX3_weighPair 9 = .ok (.iand, 1) := by decide +kernel
theorem dX3_weighPair_10 : decode cX3_weighPair 10 = .ok (.istore 6, 2) := by decide +kernel
theorem dX3_weighPair_12 : decode cX3_weighPair 12 = .ok (.aload_n 0, 1) := by decide +kernel
theorem dX3_weighPair_13 : decode cX3_weighPair 13 = .ok (.invokevirtual 44, 3) := by decide +kernel
theorem dX3_weighPair_16 : decode cX3_weighPair 16 = .ok (.iload 5, 2) := by decide +kernel
theorem dX3_weighPair_18 : decode cX3_weighPair 18 = .ok (.iconst 1, 1) := by decide +kernel
theorem dX3_weighPair_19 : decode cX3_weighPair 19 = .ok (.if_icmp .ne 11, 3) := by decide +kernel
theorem dX3_weighPair_22 : decode cX3_weighPair 22 = .ok (.aload_n 0, 1) := by decide +kernel
theorem dX3_weighPair_23 : decode cX3_weighPair 23 = .ok (.getfield 34, 3) := by decide +kernel
theorem dX3_weighPair_26 : decode cX3_weighPair 26 = .ok (.iload_n 1, 1) := by decide +kernel
theorem dX3_weighPair_27 : decode cX3_weighPair 27 = .ok (.invokevirtual 144, 3) := by decide +kernel
theorem dX3_weighPair_30 : decode cX3_weighPair 30 = .ok (.iload 6, 2) := by decide +kernel
theorem dX3_weighPair_32 : decode cX3_weighPair 32 = .ok (.iconst 1, 1) := by decide +kernel
theorem dX3_weighPair_33 : decode cX3_weighPair 33 = .ok (.if_icmp .ne 11, 3) := by decide +kernel
theorem dX3_weighPair_36 : decode cX3_weighPair 36 = .ok (.aload_n 0, 1) := by decide +kernel
theorem dX3_weighPair_37 : decode cX3_weighPair 37 = .ok (.getfield 34, 3) := by decide +kernel
theorem dX3_weighPair_40 : decode cX3_weighPair 40 = .ok (.iload_n 2, 1) := by decide +kernel
theorem dX3_weighPair_41 : decode cX3_weighPair 41 = .ok (.invokevirtual 144, 3) := by decide +kernel
theorem dX3_weighPair_44 : decode cX3_weighPair 44 = .ok (.aload_n 0, 1) := by decide +kernel
theorem dX3_weighPair_45 : decode cX3_weighPair 45 = .ok (.getfield 34, 3) := by decide +kernel
theorem dX3_weighPair_48 : decode cX3_weighPair 48 = .ok (.iload_n 3, 1) := by decide +kernel
theorem dX3_weighPair_49 : decode cX3_weighPair 49 = .ok (.invokevirtual 47, 3) := by decide +kernel
theorem dX3_weighPair_52 : decode cX3_weighPair 52 = .ok (.aload_n 0, 1) := by decide +kernel
theorem dX3_weighPair_53 : decode cX3_weighPair 53 = .ok (.getfield 15, 3) := by decide +kernel
theorem dX3_weighPair_56 : decode cX3_weighPair 56 = .ok (.iload 4, 2) := by decide +kernel
theorem dX3_weighPair_58 : decode cX3_weighPair 58 = .ok (.aload_n 0, 1) := by decide +kernel
theorem dX3_weighPair_59 : decode cX3_weighPair 59 = .ok (.getfield 34, 3) := by decide +kernel
theorem dX3_weighPair_62 : decode cX3_weighPair 62 = .ok (.iload_n 1, 1) := by decide +kernel
theorem dX3_weighPair_63 : decode cX3_weighPair 63 = .ok (.invokevirtual 147, 3) := by decide +kernel
theorem dX3_weighPair_66 : decode cX3_weighPair 66 = .ok (.bipush 30, 2) := by decide +kernel
theorem dX3_weighPair_68 : decode cX3_weighPair 68 = .ok (.iload 5, 2) := by decide +kernel
theorem dX3_weighPair_70 : decode cX3_weighPair 70 = .ok (.imul, 1) := by decide +kernel
theorem dX3_weighPair_71 : decode cX3_weighPair 71 = .ok (.isub, 1) := by decide +kernel
theorem dX3_weighPair_72 : decode cX3_weighPair 72 = .ok (.iastore, 1) := by decide +kernel
theorem dX3_weighPair_73 : decode cX3_weighPair 73 = .ok (.aload_n 0, 1) := by decide +kernel
theorem dX3_weighPair_74 : decode cX3_weighPair 74 = .ok (.getfield 18, 3) := by decide +kernel
theorem dX3_weighPair_77 : decode cX3_weighPair 77 = .ok (.iload 4, 2) := by decide +kernel
theorem dX3_weighPair_79 : decode cX3_weighPair 79 = .ok (.aload_n 0, 1) := by decide +kernel
theorem dX3_weighPair_80 : decode cX3_weighPair 80 = .ok (.getfield 34, 3) := by decide +kernel
theorem dX3_weighPair_83 : decode cX3_weighPair 83 = .ok (.iload_n 2, 1) := by decide +kernel
theorem dX3_weighPair_84 : decode cX3_weighPair 84 = .ok (.invokevirtual 147, 3) := by decide +kernel
theorem dX3_weighPair_87 : decode cX3_weighPair 87 = .ok (.bipush 30, 2) := by decide +kernel
theorem dX3_weighPair_89 : decode cX3_weighPair 89 = .ok (.iload 6, 2) := by decide +kernel
theorem dX3_weighPair_91 : decode cX3_weighPair 91 = .ok (.imul, 1) := by decide +kernel
theorem dX3_weighPair_92 : decode cX3_weighPair 92 = .ok (.isub, 1) := by decide +kernel
theorem dX3_weighPair_93 : decode cX3_weighPair 93 = .ok (.iastore, 1) := by decide +kernel
theorem dX3_weighPair_94 : decode cX3_weighPair 94 = .ok (.return_, 1) := by decide +kernel
theorem dX3_waysHere_0 : decode cX3_waysHere 0 = .ok (.lconst 0, 1) := by decide +kernel
theorem dX3_waysHere_1 : decode cX3_waysHere 1 = .ok (.lstore 4, 2) := by decide +kernel
theorem dX3_waysHere_3 : decode cX3_waysHere 3 = .ok (.iconst 0, 1) := by decide +kernel
theorem dX3_waysHere_4 : decode cX3_waysHere 4 = .ok (.istore 6, 2) := by decide +kernel
theorem dX3_waysHere_6 : decode cX3_waysHere 6 = .ok (.iload 6, 2) := by decide +kernel
theorem dX3_waysHere_8 : decode cX3_waysHere 8 = .ok (.iconst 1, 1) := by decide +kernel
theorem dX3_waysHere_9 : decode cX3_waysHere 9 = .ok (.iload_n 2, 1) := by decide +kernel
theorem dX3_waysHere_10 : decode cX3_waysHere 10 = .ok (.ishl, 1) := by decide +kernel
theorem dX3_waysHere_11 : decode cX3_waysHere 11 = .ok (.if_icmp .ge 38, 3) := by decide +kernel
theorem dX3_waysHere_14 : decode cX3_waysHere 14 = .ok (.aload_n 0, 1) := by decide +kernel
theorem dX3_waysHere_15 : decode cX3_waysHere 15 = .ok (.iload_n 1, 1) := by decide +kernel
theorem dX3_waysHere_16 : decode cX3_waysHere 16 = .ok (.iload_n 2, 1) := by decide +kernel
theorem dX3_waysHere_17 : decode cX3_waysHere 17 = .ok (.iload 6, 2) := by decide +kernel
theorem dX3_waysHere_19 : decode cX3_waysHere 19 = .ok (.invokevirtual 150, 3) := by decide +kernel
theorem dX3_waysHere_22 : decode cX3_waysHere 22 = .ok (.ifCond .eq 21, 3) := by decide +kernel
theorem dX3_waysHere_25 : decode cX3_waysHere 25 = .ok (.lload 4, 2) := by decide +kernel
theorem dX3_waysHere_27 : decode cX3_waysHere 27 = .ok (.iload_n 3, 1) := by decide +kernel
theorem dX3_waysHere_28 : decode cX3_waysHere 28 = .ok (.iconst 1, 1) := by decide +kernel
theorem dX3_waysHere_29 : decode cX3_waysHere 29 = .ok (.isub, 1) := by decide +kernel
theorem dX3_waysHere_30 : decode cX3_waysHere 30 = .ok (.iload_n 2, 1) := by decide +kernel
theorem dX3_waysHere_31 : decode cX3_waysHere 31 = .ok (.iload 6, 2) := by decide +kernel
theorem dX3_waysHere_33 : decode cX3_waysHere 33 = .ok (.invokestatic 122, 3) := by decide +kernel
theorem dX3_waysHere_36 : decode cX3_waysHere 36 = .ok (.isub, 1) := by decide +kernel
theorem dX3_waysHere_37 : decode cX3_waysHere 37 = .ok (.invokestatic 153, 3) := by decide +kernel
theorem dX3_waysHere_40 : decode cX3_waysHere 40 = .ok (.ladd, 1) := by decide +kernel
theorem dX3_waysHere_41 : decode cX3_waysHere 41 = .ok (.lstore 4, 2) := by decide +kernel
theorem dX3_waysHere_43 : decode cX3_waysHere 43 = .ok (.iinc 6 1, 3) := by decide +kernel
theorem dX3_waysHere_46 : decode cX3_waysHere 46 = .ok (.goto (-40), 3) := by decide +kernel
theorem dX3_waysHere_49 : decode cX3_waysHere 49 = .ok (.lload 4, 2) := by decide +kernel
theorem dX3_waysHere_51 : decode cX3_waysHere 51 = .ok (.lreturn, 1) := by decide +kernel
theorem dX3_isHereBehind_0 : decode cX3_isHereBehind 0 = .ok (.aload_n 0, 1) := by decide +kernel
theorem dX3_isHereBehind_1 : decode cX3_isHereBehind 1 = .ok (.invokevirtual 44, 3) := by decide +kernel
theorem dX3_isHereBehind_4 : decode cX3_isHereBehind 4 = .ok (.iconst 0, 1) := by decide +kernel
theorem dX3_isHereBehind_5 : decode cX3_isHereBehind 5 = .ok (.istore 4, 2) := by decide +kernel
theorem dX3_isHereBehind_7 : decode cX3_isHereBehind 7 = .ok (.iload 4, 2) := by decide +kernel
theorem dX3_isHereBehind_9 : decode cX3_isHereBehind 9 = .ok (.iload_n 2, 1) := by decide +kernel
theorem dX3_isHereBehind_10 : decode cX3_isHereBehind 10 = .ok (.if_icmp .ge 33, 3) := by decide +kernel
theorem dX3_isHereBehind_13 : decode cX3_isHereBehind 13 = .ok (.iload_n 3, 1) := by decide +kernel
theorem dX3_isHereBehind_14 : decode cX3_isHereBehind 14 = .ok (.iload 4, 2) := by decide +kernel
theorem dX3_isHereBehind_16 : decode cX3_isHereBehind 16 = .ok (.ishr, 1) := by decide +kernel
theorem dX3_isHereBehind_17 : decode cX3_isHereBehind 17 = .ok (.iconst 1, 1) := by decide +kernel
theorem dX3_isHereBehind_18 : decode cX3_isHereBehind 18 = .ok (.iand, 1) := by decide +kernel
theorem dX3_isHereBehind_19 : decode cX3_isHereBehind 19 = .ok (.iconst 1, 1) := by decide +kernel
theorem dX3_isHereBehind_20 : decode cX3_isHereBehind 20 = .ok (.if_icmp .ne 10, 3) := by decide +kernel
theorem dX3_isHereBehind_23 : decode cX3_isHereBehind 23 = .ok (.aload_n 0, 1) := by decide +kernel
theorem dX3_isHereBehind_24 : decode cX3_isHereBehind 24 = .ok (.getfield 34, 3) := by decide +kernel
theorem dX3_isHereBehind_27 : decode cX3_isHereBehind 27 = .ok (.invokevirtual 157, 3) := by decide +kernel
theorem dX3_isHereBehind_30 : decode cX3_isHereBehind 30 = .ok (.aload_n 0, 1) := by decide +kernel
theorem dX3_isHereBehind_31 : decode cX3_isHereBehind 31 = .ok (.getfield 34, 3) := by decide +kernel
theorem dX3_isHereBehind_34 : decode cX3_isHereBehind 34 = .ok (.invokevirtual 59, 3) := by decide +kernel
theorem dX3_isHereBehind_37 : decode cX3_isHereBehind 37 = .ok (.iinc 4 1, 3) := by decide +kernel
theorem dX3_isHereBehind_40 : decode cX3_isHereBehind 40 = .ok (.goto (-33), 3) := by decide +kernel
theorem dX3_isHereBehind_43 : decode cX3_isHereBehind 43 = .ok (.aload_n 0, 1) := by decide +kernel
theorem dX3_isHereBehind_44 : decode cX3_isHereBehind 44 = .ok (.getfield 34, 3) := by decide +kernel
theorem dX3_isHereBehind_47 : decode cX3_isHereBehind 47 = .ok (.getfield 68, 3) := by decide +kernel
theorem dX3_isHereBehind_50 : decode cX3_isHereBehind 50 = .ok (.iload_n 1, 1) := by decide +kernel
theorem dX3_isHereBehind_51 : decode cX3_isHereBehind 51 = .ok (.baload, 1) := by decide +kernel
theorem dX3_isHereBehind_52 : decode cX3_isHereBehind 52 = .ok (.ireturn, 1) := by decide +kernel
theorem dX3_kindsThatFit_0 : decode cX3_kindsThatFit 0 = .ok (.iconst 0, 1) := by decide +kernel
theorem dX3_kindsThatFit_1 : decode cX3_kindsThatFit 1 = .ok (.istore 4, 2) := by decide +kernel
theorem dX3_kindsThatFit_3 : decode cX3_kindsThatFit 3 = .ok (.iconst 0, 1) := by decide +kernel
theorem dX3_kindsThatFit_4 : decode cX3_kindsThatFit 4 = .ok (.istore 5, 2) := by decide +kernel
theorem dX3_kindsThatFit_6 : decode cX3_kindsThatFit 6 = .ok (.iload 5, 2) := by decide +kernel
theorem dX3_kindsThatFit_8 : decode cX3_kindsThatFit 8 = .ok (.bipush 6, 2) := by decide +kernel
theorem dX3_kindsThatFit_10 : decode cX3_kindsThatFit 10 = .ok (.if_icmp .ge 47, 3) := by decide +kernel
theorem dX3_kindsThatFit_13 : decode cX3_kindsThatFit 13 = .ok (.aload_n 0, 1) := by decide +kernel
theorem dX3_kindsThatFit_14 : decode cX3_kindsThatFit 14 = .ok (.invokevirtual 44, 3) := by decide +kernel
theorem dX3_kindsThatFit_17 : decode cX3_kindsThatFit 17 = .ok (.aload_n 0, 1) := by decide +kernel
theorem dX3_kindsThatFit_18 : decode cX3_kindsThatFit 18 = .ok (.getfield 34, 3) := by decide +kernel
theorem dX3_kindsThatFit_21 : decode cX3_kindsThatFit 21 = .ok (.getfield 105, 3) := by decide +kernel
theorem dX3_kindsThatFit_24 : decode cX3_kindsThatFit 24 = .ok (.iload_n 1, 1) := by decide +kernel
theorem dX3_kindsThatFit_25 : decode cX3_kindsThatFit 25 = .ok (.iload 5, 2) := by decide +kernel
theorem dX3_kindsThatFit_27 : decode cX3_kindsThatFit 27 = .ok (.iastore, 1) := by decide +kernel
theorem dX3_kindsThatFit_28 : decode cX3_kindsThatFit 28 = .ok (.iload 4, 2) := by decide +kernel
theorem dX3_kindsThatFit_30 : decode cX3_kindsThatFit 30 = .ok (.aload_n 0, 1) := by decide +kernel
theorem dX3_kindsThatFit_31 : decode cX3_kindsThatFit 31 = .ok (.iload_n 1, 1) := by decide +kernel
theorem dX3_kindsThatFit_32 : decode cX3_kindsThatFit 32 = .ok (.iload_n 2, 1) := by decide +kernel
theorem dX3_kindsThatFit_33 : decode cX3_kindsThatFit 33 = .ok (.aload_n 3, 1) := by decide +kernel
theorem dX3_kindsThatFit_34 : decode cX3_kindsThatFit 34 = .ok (.invokevirtual 160, 3) := by decide +kernel
theorem dX3_kindsThatFit_37 : decode cX3_kindsThatFit 37 = .ok (.ifCond .eq 10, 3) := by decide +kernel
theorem dX3_kindsThatFit_40 : decode cX3_kindsThatFit 40 = .ok (.iconst 1, 1) := by decide +kernel
theorem dX3_kindsThatFit_41 : decode cX3_kindsThatFit 41 = .ok (.iload 5, 2) := by decide +kernel
theorem dX3_kindsThatFit_43 : decode cX3_kindsThatFit 43 = .ok (.ishl, 1) := by decide +kernel
theorem dX3_kindsThatFit_44 : decode cX3_kindsThatFit 44 = .ok (.goto 4, 3) := by decide +kernel
theorem dX3_kindsThatFit_47 : decode cX3_kindsThatFit 47 = .ok (.iconst 0, 1) := by decide +kernel
theorem dX3_kindsThatFit_48 : decode cX3_kindsThatFit 48 = .ok (.ior, 1) := by decide +kernel
theorem dX3_kindsThatFit_49 : decode cX3_kindsThatFit 49 = .ok (.istore 4, 2) := by decide +kernel
theorem dX3_kindsThatFit_51 : decode cX3_kindsThatFit 51 = .ok (.iinc 5 1, 3) := by decide +kernel
theorem dX3_kindsThatFit_54 : decode cX3_kindsThatFit 54 = .ok (.goto (-48), 3) := by decide +kernel
theorem dX3_kindsThatFit_57 : decode cX3_kindsThatFit 57 = .ok (.iload 4, 2) := by decide +kernel
theorem dX3_kindsThatFit_59 : decode cX3_kindsThatFit 59 = .ok (.ireturn, 1) := by decide +kernel
theorem dX3_figuresThatFit_0 : decode cX3_figuresThatFit 0 = .ok (.iconst 0, 1) := by decide +kernel
theorem dX3_figuresThatFit_1 : decode cX3_figuresThatFit 1 = .ok (.istore 4, 2) := by decide +kernel
theorem dX3_figuresThatFit_3 : decode cX3_figuresThatFit 3 = .ok (.iconst 0, 1) := by decide +kernel
theorem dX3_figuresThatFit_4 : decode cX3_figuresThatFit 4 = .ok (.istore 5, 2) := by decide +kernel
theorem dX3_figuresThatFit_6 : decode cX3_figuresThatFit 6 = .ok (.iload 5, 2) := by decide +kernel
theorem dX3_figuresThatFit_8 : decode cX3_figuresThatFit 8 = .ok (.bipush 9, 2) := by decide +kernel
theorem dX3_figuresThatFit_10 : decode cX3_figuresThatFit 10 = .ok (.if_icmp .gt 47, 3) := by decide +kernel
theorem dX3_figuresThatFit_13 : decode cX3_figuresThatFit 13 = .ok (.aload_n 0, 1) := by decide +kernel
theorem dX3_figuresThatFit_14 : decode cX3_figuresThatFit 14 = .ok (.invokevirtual 44, 3) := by decide +kernel
theorem dX3_figuresThatFit_17 : decode cX3_figuresThatFit 17 = .ok (.aload_n 0, 1) := by decide +kernel
theorem dX3_figuresThatFit_18 : decode cX3_figuresThatFit 18 = .ok (.getfield 34, 3) := by decide +kernel
theorem dX3_figuresThatFit_21 : decode cX3_figuresThatFit 21 = .ok (.getfield 164, 3) := by decide +kernel
theorem dX3_figuresThatFit_24 : decode cX3_figuresThatFit 24 = .ok (.iload_n 1, 1) := by decide +kernel
theorem dX3_figuresThatFit_25 : decode cX3_figuresThatFit 25 = .ok (.iload 5, 2) := by decide +kernel
theorem dX3_figuresThatFit_27 : decode cX3_figuresThatFit 27 = .ok (.iastore, 1) := by decide +kernel
theorem dX3_figuresThatFit_28 : decode cX3_figuresThatFit 28 = .ok (.iload 4, 2) := by decide +kernel
theorem dX3_figuresThatFit_30 : decode cX3_figuresThatFit 30 = .ok (.aload_n 0, 1) := by decide +kernel
theorem dX3_figuresThatFit_31 : decode cX3_figuresThatFit 31 = .ok (.iload_n 1, 1) := by decide +kernel
theorem dX3_figuresThatFit_32 : decode cX3_figuresThatFit 32 = .ok (.iload_n 2, 1) := by decide +kernel
theorem dX3_figuresThatFit_33 : decode cX3_figuresThatFit 33 = .ok (.aload_n 3, 1) := by decide +kernel
theorem dX3_figuresThatFit_34 : decode cX3_figuresThatFit 34 = .ok (.invokevirtual 160, 3) := by decide +kernel
theorem dX3_figuresThatFit_37 : decode cX3_figuresThatFit 37 = .ok (.ifCond .eq 10, 3) := by decide +kernel
theorem dX3_figuresThatFit_40 : decode cX3_figuresThatFit 40 = .ok (.iconst 1, 1) := by decide +kernel
theorem dX3_figuresThatFit_41 : decode cX3_figuresThatFit 41 = .ok (.iload 5, 2) := by decide +kernel
theorem dX3_figuresThatFit_43 : decode cX3_figuresThatFit 43 = .ok (.ishl, 1) := by decide +kernel
theorem dX3_figuresThatFit_44 : decode cX3_figuresThatFit 44 = .ok (.goto 4, 3) := by decide +kernel
theorem dX3_figuresThatFit_47 : decode cX3_figuresThatFit 47 = .ok (.iconst 0, 1) := by decide +kernel
theorem dX3_figuresThatFit_48 : decode cX3_figuresThatFit 48 = .ok (.ior, 1) := by decide +kernel
theorem dX3_figuresThatFit_49 : decode cX3_figuresThatFit 49 = .ok (.istore 4, 2) := by decide +kernel
theorem dX3_figuresThatFit_51 : decode cX3_figuresThatFit 51 = .ok (.iinc 5 1, 3) := by decide +kernel
theorem dX3_figuresThatFit_54 : decode cX3_figuresThatFit 54 = .ok (.goto (-48), 3) := by decide +kernel
theorem dX3_figuresThatFit_57 : decode cX3_figuresThatFit 57 = .ok (.iload 4, 2) := by decide +kernel
theorem dX3_figuresThatFit_59 : decode cX3_figuresThatFit 59 = .ok (.ireturn, 1) := by decide +kernel
theorem dX3_isMemoryAsTold_0 : decode cX3_isMemoryAsTold 0 = .ok (.iconst 0, 1) := by decide +kernel
theorem dX3_isMemoryAsTold_1 : decode cX3_isMemoryAsTold 1 = .ok (.istore 4, 2) := by decide +kernel
theorem dX3_isMemoryAsTold_3 : decode cX3_isMemoryAsTold 3 = .ok (.iload 4, 2) := by decide +kernel
theorem dX3_isMemoryAsTold_5 : decode cX3_isMemoryAsTold 5 = .ok (.aload_n 3, 1) := by decide +kernel
theorem dX3_isMemoryAsTold_6 : decode cX3_isMemoryAsTold 6 = .ok (.getfield 167, 3) := by decide +kernel
theorem dX3_isMemoryAsTold_9 : decode cX3_isMemoryAsTold 9 = .ok (.if_icmp .ge 37, 3) := by decide +kernel
theorem dX3_isMemoryAsTold_12 : decode cX3_isMemoryAsTold 12 = .ok (.aload_n 0, 1) := by decide +kernel
theorem dX3_isMemoryAsTold_13 : decode cX3_isMemoryAsTold 13 = .ok (.getfield 34, 3) := by decide +kernel
theorem dX3_isMemoryAsTold_16 : decode cX3_isMemoryAsTold 16 = .ok (.iload_n 2, 1) := by decide +kernel
theorem dX3_isMemoryAsTold_17 : decode cX3_isMemoryAsTold 17 = .ok (.iload_n 1, 1) := by decide +kernel
theorem dX3_isMemoryAsTold_18 : decode cX3_isMemoryAsTold 18 = .ok (.invokevirtual 172, 3) := by decide +kernel
theorem dX3_isMemoryAsTold_21 : decode cX3_isMemoryAsTold 21 = .ok (.aload_n 3, 1) := by decide +kernel
theorem dX3_isMemoryAsTold_22 : decode cX3_isMemoryAsTold 22 = .ok (.getfield 175, 3) := by decide +kernel
theorem dX3_isMemoryAsTold_25 : decode cX3_isMemoryAsTold 25 = .ok (.iload 4, 2) := by decide +kernel
theorem dX3_isMemoryAsTold_27 : decode cX3_isMemoryAsTold 27 = .ok (.iaload, 1) := by decide +kernel
theorem dX3_isMemoryAsTold_28 : decode cX3_isMemoryAsTold 28 = .ok (.if_icmp .eq 5, 3) := by decide +kernel
theorem dX3_isMemoryAsTold_31 : decode cX3_isMemoryAsTold 31 = .ok (.iconst 0, 1) := by decide +kernel
theorem dX3_isMemoryAsTold_32 : decode cX3_isMemoryAsTold 32 = .ok (.ireturn, 1) := by decide +kernel
theorem dX3_isMemoryAsTold_33 : decode cX3_isMemoryAsTold 33 = .ok (.aload_n 0, 1) := by decide +kernel
theorem dX3_isMemoryAsTold_34 : decode cX3_isMemoryAsTold 34 = .ok (.getfield 34, 3) := by decide +kernel
theorem dX3_isMemoryAsTold_37 : decode cX3_isMemoryAsTold 37 = .ok (.invokevirtual 59, 3) := by decide +kernel
theorem dX3_isMemoryAsTold_40 : decode cX3_isMemoryAsTold 40 = .ok (.iinc 4 1, 3) := by decide +kernel
theorem dX3_isMemoryAsTold_43 : decode cX3_isMemoryAsTold 43 = .ok (.goto (-40), 3) := by decide +kernel
theorem dX3_isMemoryAsTold_46 : decode cX3_isMemoryAsTold 46 = .ok (.iconst 1, 1) := by decide +kernel
theorem dX3_isMemoryAsTold_47 : decode cX3_isMemoryAsTold 47 = .ok (.ireturn, 1) := by decide +kernel
theorem dX3_firstNotSo_0 : decode cX3_firstNotSo 0 = .ok (.aload_n 0, 1) := by decide +kernel
theorem dX3_firstNotSo_1 : decode cX3_firstNotSo 1 = .ok (.invokevirtual 44, 3) := by decide +kernel
theorem dX3_firstNotSo_4 : decode cX3_firstNotSo 4 = .ok (.iconst 0, 1) := by decide +kernel
theorem dX3_firstNotSo_5 : decode cX3_firstNotSo 5 = .ok (.istore_n 2, 1) := by decide +kernel
theorem dX3_firstNotSo_6 : decode cX3_firstNotSo 6 = .ok (.iload_n 2, 1) := by decide +kernel
theorem dX3_firstNotSo_7 : decode cX3_firstNotSo 7 = .ok (.aload_n 1, 1) := by decide +kernel
theorem dX3_firstNotSo_8 : decode cX3_firstNotSo 8 = .ok (.getfield 167, 3) := by decide +kernel
theorem dX3_firstNotSo_11 : decode cX3_firstNotSo 11 = .ok (.if_icmp .ge 34, 3) := by decide +kernel
theorem dX3_firstNotSo_14 : decode cX3_firstNotSo 14 = .ok (.aload_n 0, 1) := by decide +kernel
theorem dX3_firstNotSo_15 : decode cX3_firstNotSo 15 = .ok (.getfield 34, 3) := by decide +kernel
theorem dX3_firstNotSo_18 : decode cX3_firstNotSo 18 = .ok (.invokevirtual 102, 3) := by decide +kernel
theorem dX3_firstNotSo_21 : decode cX3_firstNotSo 21 = .ok (.aload_n 1, 1) := by decide +kernel
theorem dX3_firstNotSo_22 : decode cX3_firstNotSo 22 = .ok (.getfield 175, 3) := by decide +kernel
theorem dX3_firstNotSo_25 : decode cX3_firstNotSo 25 = .ok (.iload_n 2, 1) := by decide +kernel
theorem dX3_firstNotSo_26 : decode cX3_firstNotSo 26 = .ok (.iaload, 1) := by decide +kernel
theorem dX3_firstNotSo_27 : decode cX3_firstNotSo 27 = .ok (.if_icmp .eq 5, 3) := by decide +kernel
theorem dX3_firstNotSo_30 : decode cX3_firstNotSo 30 = .ok (.iload_n 2, 1) := by decide +kernel
theorem dX3_firstNotSo_31 : decode cX3_firstNotSo 31 = .ok (.ireturn, 1) := by decide +kernel
theorem dX3_firstNotSo_32 : decode cX3_firstNotSo 32 = .ok (.aload_n 0, 1) := by decide +kernel
theorem dX3_firstNotSo_33 : decode cX3_firstNotSo 33 = .ok (.getfield 34, 3) := by decide +kernel
theorem dX3_firstNotSo_36 : decode cX3_firstNotSo 36 = .ok (.invokevirtual 59, 3) := by decide +kernel
theorem dX3_firstNotSo_39 : decode cX3_firstNotSo 39 = .ok (.iinc 2 1, 3) := by decide +kernel
theorem dX3_firstNotSo_42 : decode cX3_firstNotSo 42 = .ok (.goto (-36), 3) := by decide +kernel
theorem dX3_firstNotSo_45 : decode cX3_firstNotSo 45 = .ok (.bipush (-9), 2) := by decide +kernel
theorem dX3_firstNotSo_47 : decode cX3_firstNotSo 47 = .ok (.ireturn, 1) := by decide +kernel
theorem dX3_byLot_0 : decode cX3_byLot 0 = .ok (.aload_n 0, 1) := by decide +kernel
theorem dX3_byLot_1 : decode cX3_byLot 1 = .ok (.iload_n 2, 1) := by decide +kernel
theorem dX3_byLot_2 : decode cX3_byLot 2 = .ok (.putfield 21, 3) := by decide +kernel
theorem dX3_byLot_5 : decode cX3_byLot 5 = .ok (.iconst 0, 1) := by decide +kernel
theorem dX3_byLot_6 : decode cX3_byLot 6 = .ok (.istore 4, 2) := by decide +kernel
theorem dX3_byLot_8 : decode cX3_byLot 8 = .ok (.iconst 0, 1) := by decide +kernel
theorem dX3_byLot_9 : decode cX3_byLot 9 = .ok (.istore 5, 2) := by decide +kernel
theorem dX3_byLot_11 : decode cX3_byLot 11 = .ok (.iload 5, 2) := by decide +kernel
theorem dX3_byLot_13 : decode cX3_byLot 13 = .ok (.iload_n 1, 1) := by decide +kernel
theorem dX3_byLot_14 : decode cX3_byLot 14 = .ok (.if_icmp .ge 52, 3) := by decide +kernel
theorem dX3_byLot_17 : decode cX3_byLot 17 = .ok (.aload_n 0, 1) := by decide +kernel
theorem dX3_byLot_18 : decode cX3_byLot 18 = .ok (.invokevirtual 44, 3) := by decide +kernel
theorem dX3_byLot_21 : decode cX3_byLot 21 = .ok (.aload_n 0, 1) := by decide +kernel
theorem dX3_byLot_22 : decode cX3_byLot 22 = .ok (.invokevirtual 178, 3) := by decide +kernel
theorem dX3_byLot_25 : decode cX3_byLot 25 = .ok (.aload_n 0, 1) := by decide +kernel
theorem dX3_byLot_26 : decode cX3_byLot 26 = .ok (.getfield 34, 3) := by decide +kernel
theorem dX3_byLot_29 : decode cX3_byLot 29 = .ok (.bipush 20, 2) := by decide +kernel
theorem dX3_byLot_31 : decode cX3_byLot 31 = .ok (.invokevirtual 47, 3) := by decide +kernel
theorem dX3_byLot_34 : decode cX3_byLot 34 = .ok (.iload 4, 2) := by decide +kernel
theorem dX3_byLot_36 : decode cX3_byLot 36 = .ok (.iload_n 3, 1) := by decide +kernel
theorem dX3_byLot_37 : decode cX3_byLot 37 = .ok (.ifCond .eq 13, 3) := by decide +kernel
theorem dX3_byLot_40 : decode cX3_byLot 40 = .ok (.aload_n 0, 1) := by decide +kernel
theorem dX3_byLot_41 : decode cX3_byLot 41 = .ok (.getfield 34, 3) := by decide +kernel
theorem dX3_byLot_44 : decode cX3_byLot 44 = .ok (.invokevirtual 181, 3) := by decide +kernel
theorem dX3_byLot_47 : decode cX3_byLot 47 = .ok (.goto 10, 3) := by decide +kernel
theorem dX3_byLot_50 : decode cX3_byLot 50 = .ok (.aload_n 0, 1) := by decide +kernel
theorem dX3_byLot_51 : decode cX3_byLot 51 = .ok (.getfield 34, 3) := by decide +kernel
theorem dX3_byLot_54 : decode cX3_byLot 54 = .ok (.invokevirtual 102, 3) := by decide +kernel
theorem dX3_byLot_57 : decode cX3_byLot 57 = .ok (.iadd, 1) := by decide +kernel
theorem dX3_byLot_58 : decode cX3_byLot 58 = .ok (.istore 4, 2) := by decide +kernel
theorem dX3_byLot_60 : decode cX3_byLot 60 = .ok (.iinc 5 1, 3) := by decide +kernel
theorem dX3_byLot_63 : decode cX3_byLot 63 = .ok (.goto (-52), 3) := by decide +kernel
theorem dX3_byLot_66 : decode cX3_byLot 66 = .ok (.iload 4, 2) := by decide +kernel
theorem dX3_byLot_68 : decode cX3_byLot 68 = .ok (.ireturn, 1) := by decide +kernel
theorem dX3_drawMemories_0 : decode cX3_drawMemories 0 = .ok (.iconst 0, 1) := by decide +kernel
theorem dX3_drawMemories_1 : decode cX3_drawMemories 1 = .ok (.istore_n 1, 1) := by decide +kernel
theorem dX3_drawMemories_2 : decode cX3_drawMemories 2 = .ok (.iload_n 1, 1) := by decide +kernel
theorem dX3_drawMemories_3 : decode cX3_drawMemories 3 = .ok (.aload_n 0, 1) := by decide +kernel
theorem dX3_drawMemories_4 : decode cX3_drawMemories 4 = .ok (.getfield 34, 3) := by decide +kernel
theorem dX3_drawMemories_7 : decode cX3_drawMemories 7 = .ok (.getfield 65, 3) := by decide +kernel
theorem dX3_drawMemories_10 : decode cX3_drawMemories 10 = .ok (.if_icmp .ge 46, 3) := by decide +kernel
theorem dX3_drawMemories_13 : decode cX3_drawMemories 13 = .ok (.iconst 0, 1) := by decide +kernel
theorem dX3_drawMemories_14 : decode cX3_drawMemories 14 = .ok (.istore_n 2, 1) := by decide +kernel
theorem dX3_drawMemories_15 : decode cX3_drawMemories 15 = .ok (.iload_n 2, 1) := by decide +kernel
theorem dX3_drawMemories_16 : decode cX3_drawMemories 16 = .ok (.aload_n 0, 1) := by decide +kernel
theorem dX3_drawMemories_17 : decode cX3_drawMemories 17 = .ok (.getfield 34, 3) := by decide +kernel
theorem dX3_drawMemories_20 : decode cX3_drawMemories 20 = .ok (.getfield 65, 3) := by decide +kernel
theorem dX3_drawMemories_23 : decode cX3_drawMemories 23 = .ok (.if_icmp .ge 27, 3) := by decide +kernel
theorem dX3_drawMemories_26 : decode cX3_drawMemories 26 = .ok (.iload_n 1, 1) := by decide +kernel
theorem dX3_drawMemories_27 : decode cX3_drawMemories 27 = .ok (.iload_n 2, 1) := by decide +kernel
theorem dX3_drawMemories_28 : decode cX3_drawMemories 28 = .ok (.if_icmp .eq 16, 3) := by decide +kernel
theorem dX3_drawMemories_31 : decode cX3_drawMemories 31 = .ok (.aload_n 0, 1) := by decide +kernel
theorem dX3_drawMemories_32 : decode cX3_drawMemories 32 = .ok (.getfield 34, 3) := by decide +kernel
theorem dX3_drawMemories_35 : decode cX3_drawMemories 35 = .ok (.iload_n 1, 1) := by decide +kernel
theorem dX3_drawMemories_36 : decode cX3_drawMemories 36 = .ok (.iload_n 2, 1) := by decide +kernel
theorem dX3_drawMemories_37 : decode cX3_drawMemories 37 = .ok (.aload_n 0, 1) := by decide +kernel
theorem dX3_drawMemories_38 : decode cX3_drawMemories 38 = .ok (.invokevirtual 184, 3) := by decide +kernel
theorem dX3_drawMemories_41 : decode cX3_drawMemories 41 = .ok (.invokevirtual 187, 3) := by decide +kernel
theorem dX3_drawMemories_44 : decode cX3_drawMemories 44 = .ok (.iinc 2 1, 3) := by decide +kernel
theorem dX3_drawMemories_47 : decode cX3_drawMemories 47 = .ok (.goto (-32), 3) := by decide +kernel
theorem dX3_drawMemories_50 : decode cX3_drawMemories 50 = .ok (.iinc 1 1, 3) := by decide +kernel
theorem dX3_drawMemories_53 : decode cX3_drawMemories 53 = .ok (.goto (-51), 3) := by decide +kernel
theorem dX3_drawMemories_56 : decode cX3_drawMemories 56 = .ok (.return_, 1) := by decide +kernel
theorem dX3_drawBelowHundred_0 : decode cX3_drawBelowHundred 0 = .ok (.aload_n 0, 1) := by decide +kernel
theorem dX3_drawBelowHundred_1 : decode cX3_drawBelowHundred 1 = .ok (.aload_n 0, 1) := by decide +kernel
theorem dX3_drawBelowHundred_2 : decode cX3_drawBelowHundred 2 = .ok (.getfield 21, 3) := by decide +kernel
theorem dX3_drawBelowHundred_5 : decode cX3_drawBelowHundred 5 = .ok (.ldc 191, 2) := by decide +kernel
theorem dX3_drawBelowHundred_7 : decode cX3_drawBelowHundred 7 = .ok (.imul, 1) := by decide +kernel
theorem dX3_drawBelowHundred_8 : decode cX3_drawBelowHundred 8 = .ok (.ldc 192, 2) := by decide +kernel
theorem dX3_drawBelowHundred_10 : decode cX3_drawBelowHundred 10 = .ok (.iadd, 1) := by decide +kernel
theorem dX3_drawBelowHundred_11 : decode cX3_drawBelowHundred 11 = .ok (.putfield 21, 3) := by decide +kernel
theorem dX3_drawBelowHundred_14 : decode cX3_drawBelowHundred 14 = .ok (.aload_n 0, 1) := by decide +kernel
theorem dX3_drawBelowHundred_15 : decode cX3_drawBelowHundred 15 = .ok (.getfield 21, 3) := by decide +kernel
theorem dX3_drawBelowHundred_18 : decode cX3_drawBelowHundred 18 = .ok (.ldc 193, 2) := by decide +kernel
theorem dX3_drawBelowHundred_20 : decode cX3_drawBelowHundred 20 = .ok (.iand, 1) := by decide +kernel
theorem dX3_drawBelowHundred_21 : decode cX3_drawBelowHundred 21 = .ok (.sipush 256, 3) := by decide +kernel
theorem dX3_drawBelowHundred_24 : decode cX3_drawBelowHundred 24 = .ok (.idiv, 1) := by decide +kernel
theorem dX3_drawBelowHundred_25 : decode cX3_drawBelowHundred 25 = .ok (.bipush 100, 2) := by decide +kernel
theorem dX3_drawBelowHundred_27 : decode cX3_drawBelowHundred 27 = .ok (.irem, 1) := by decide +kernel
theorem dX3_drawBelowHundred_28 : decode cX3_drawBelowHundred 28 = .ok (.ireturn, 1) := by decide +kernel
theorem dX4_init_0 : decode cX4_init 0 = .ok (.aload_n 0, 1) := by decide +kernel
theorem dX4_init_1 : decode cX4_init 1 = .ok (.invokespecial 1, 3) := by decide +kernel
theorem dX4_init_4 : decode cX4_init 4 = .ok (.return_, 1) := by decide +kernel
theorem dX4_change_0 : decode cX4_change 0 = .ok (.iconst (-1), 1) := by decide +kernel
theorem dX4_change_1 : decode cX4_change 1 = .ok (.ireturn, 1) := by decide +kernel
theorem dX4_isNamed_0 : decode cX4_isNamed 0 = .ok (.iconst 1, 1) := by decide +kernel
theorem dX4_isNamed_1 : decode cX4_isNamed 1 = .ok (.ireturn, 1) := by decide +kernel
theorem dX5_init_0 : decode cX5_init 0 = .ok (.aload_n 0, 1) := by decide +kernel
theorem dX5_init_1 : decode cX5_init 1 = .ok (.invokespecial 1, 3) := by decide +kernel
theorem dX5_init_4 : decode cX5_init 4 = .ok (.return_, 1) := by decide +kernel
theorem dX5_change_0 : decode cX5_change 0 = .ok (.aload_n 0, 1) := by decide +kernel
theorem dX5_change_1 : decode cX5_change 1 = .ok (.iload_n 1, 1) := by decide +kernel
theorem dX5_change_2 : decode cX5_change 2 = .ok (.iload_n 2, 1) := by decide +kernel
theorem dX5_change_3 : decode cX5_change 3 = .ok (.iload_n 3, 1) := by decide +kernel
theorem dX5_change_4 : decode cX5_change 4 = .ok (.invokespecial 7, 3) := by decide +kernel
theorem dX5_change_7 : decode cX5_change 7 = .ok (.iload_n 3, 1) := by decide +kernel
theorem dX5_change_8 : decode cX5_change 8 = .ok (.iadd, 1) := by decide +kernel
theorem dX5_change_9 : decode cX5_change 9 = .ok (.ireturn, 1) := by decide +kernel
theorem dX6_init_0 : decode cX6_init 0 = .ok (.aload_n 0, 1) := by decide +kernel
theorem dX6_init_1 : decode cX6_init 1 = .ok (.invokespecial 3, 3) := by decide +kernel
theorem dX6_init_4 : decode cX6_init 4 = .ok (.aload_n 0, 1) := by decide +kernel
theorem dX6_init_5 : decode cX6_init 5 = .ok (.bipush 16, 2) := by decide +kernel
theorem dX6_init_7 : decode cX6_init 7 = .ok (.newarray .int, 2) := by decide +kernel
theorem dX6_init_9 : decode cX6_init 9 = .ok (.putfield 9, 3) := by decide +kernel
theorem dX6_init_12 : decode cX6_init 12 = .ok (.aload_n 0, 1) := by decide +kernel
theorem dX6_init_13 : decode cX6_init 13 = .ok (.iconst 0, 1) := by decide +kernel
theorem dX6_init_14 : decode cX6_init 14 = .ok (.putfield 15, 3) := by decide +kernel
theorem dX6_init_17 : decode cX6_init 17 = .ok (.return_, 1) := by decide +kernel
theorem dX6_isFull_0 : decode cX6_isFull 0 = .ok (.aload_n 0, 1) := by decide +kernel
theorem dX6_isFull_1 : decode cX6_isFull 1 = .ok (.getfield 15, 3) := by decide +kernel
theorem dX6_isFull_4 : decode cX6_isFull 4 = .ok (.bipush 16, 2) := by decide +kernel
theorem dX6_isFull_6 : decode cX6_isFull 6 = .ok (.if_icmp .lt 7, 3) := by decide +kernel
theorem dX6_isFull_9 : decode cX6_isFull 9 = .ok (.iconst 1, 1) := by decide +kernel
theorem dX6_isFull_10 : decode cX6_isFull 10 = .ok (.goto 4, 3) := by decide +kernel
theorem dX6_isFull_13 : decode cX6_isFull 13 = .ok (.iconst 0, 1) := by decide +kernel
theorem dX6_isFull_14 : decode cX6_isFull 14 = .ok (.ireturn, 1) := by decide +kernel
theorem dX6_add_0 : decode cX6_add 0 = .ok (.aload_n 0, 1) := by decide +kernel
theorem dX6_add_1 : decode cX6_add 1 = .ok (.getfield 9, 3) := by decide +kernel
theorem dX6_add_4 : decode cX6_add 4 = .ok (.aload_n 0, 1) := by decide +kernel
theorem dX6_add_5 : decode cX6_add 5 = .ok (.getfield 15, 3) := by decide +kernel
theorem dX6_add_8 : decode cX6_add 8 = .ok (.iload_n 1, 1) := by decide +kernel
theorem dX6_add_9 : decode cX6_add 9 = .ok (.iastore, 1) := by decide +kernel
theorem dX6_add_10 : decode cX6_add 10 = .ok (.aload_n 0, 1) := by decide +kernel
theorem dX6_add_11 : decode cX6_add 11 = .ok (.dup, 1) := by decide +kernel
theorem dX6_add_12 : decode cX6_add 12 = .ok (.getfield 15, 3) := by decide +kernel
theorem dX6_add_15 : decode cX6_add 15 = .ok (.iconst 1, 1) := by decide +kernel
theorem dX6_add_16 : decode cX6_add 16 = .ok (.iadd, 1) := by decide +kernel
theorem dX6_add_17 : decode cX6_add 17 = .ok (.putfield 15, 3) := by decide +kernel
theorem dX6_add_20 : decode cX6_add 20 = .ok (.aload_n 0, 1) := by decide +kernel
theorem dX6_add_21 : decode cX6_add 21 = .ok (.getfield 15, 3) := by decide +kernel
theorem dX6_add_24 : decode cX6_add 24 = .ok (.ireturn, 1) := by decide +kernel
theorem dX6_empty_0 : decode cX6_empty 0 = .ok (.aload_n 0, 1) := by decide +kernel
theorem dX6_empty_1 : decode cX6_empty 1 = .ok (.getfield 15, 3) := by decide +kernel
theorem dX6_empty_4 : decode cX6_empty 4 = .ok (.istore_n 1, 1) := by decide +kernel
theorem dX6_empty_5 : decode cX6_empty 5 = .ok (.aload_n 0, 1) := by decide +kernel
theorem dX6_empty_6 : decode cX6_empty 6 = .ok (.iconst 0, 1) := by decide +kernel
theorem dX6_empty_7 : decode cX6_empty 7 = .ok (.putfield 15, 3) := by decide +kernel
theorem dX6_empty_10 : decode cX6_empty 10 = .ok (.iload_n 1, 1) := by decide +kernel
theorem dX6_empty_11 : decode cX6_empty 11 = .ok (.ireturn, 1) := by decide +kernel
theorem dX7_init_0 : decode cX7_init 0 = .ok (.aload_n 0, 1) := by decide +kernel
theorem dX7_init_1 : decode cX7_init 1 = .ok (.invokespecial 3, 3) := by decide +kernel
theorem dX7_init_4 : decode cX7_init 4 = .ok (.aload_n 0, 1) := by decide +kernel
theorem dX7_init_5 : decode cX7_init 5 = .ok (.bipush 96, 2) := by decide +kernel
theorem dX7_init_7 : decode cX7_init 7 = .ok (.newarray .int, 2) := by decide +kernel
theorem dX7_init_9 : decode cX7_init 9 = .ok (.putfield 9, 3) := by decide +kernel
theorem dX7_init_12 : decode cX7_init 12 = .ok (.aload_n 0, 1) := by decide +kernel
theorem dX7_init_13 : decode cX7_init 13 = .ok (.iconst 0, 1) := by decide +kernel
theorem dX7_init_14 : decode cX7_init 14 = .ok (.putfield 15, 3) := by decide +kernel
theorem dX7_init_17 : decode cX7_init 17 = .ok (.return_, 1) := by decide +kernel
theorem dX7_isFull_0 : decode cX7_isFull 0 = .ok (.aload_n 0, 1) := by decide +kernel
theorem dX7_isFull_1 : decode cX7_isFull 1 = .ok (.getfield 15, 3) := by decide +kernel
theorem dX7_isFull_4 : decode cX7_isFull 4 = .ok (.bipush 96, 2) := by decide +kernel
theorem dX7_isFull_6 : decode cX7_isFull 6 = .ok (.if_icmp .lt 7, 3) := by decide +kernel
theorem dX7_isFull_9 : decode cX7_isFull 9 = .ok (.iconst 1, 1) := by decide +kernel
theorem dX7_isFull_10 : decode cX7_isFull 10 = .ok (.goto 4, 3) := by decide +kernel
theorem dX7_isFull_13 : decode cX7_isFull 13 = .ok (.iconst 0, 1) := by decide +kernel
theorem dX7_isFull_14 : decode cX7_isFull 14 = .ok (.ireturn, 1) := by decide +kernel
theorem dX7_add_0 : decode cX7_add 0 = .ok (.aload_n 0, 1) := by decide +kernel
theorem dX7_add_1 : decode cX7_add 1 = .ok (.getfield 9, 3) := by decide +kernel
theorem dX7_add_4 : decode cX7_add 4 = .ok (.aload_n 0, 1) := by decide +kernel
theorem dX7_add_5 : decode cX7_add 5 = .ok (.getfield 15, 3) := by decide +kernel
theorem dX7_add_8 : decode cX7_add 8 = .ok (.iload_n 1, 1) := by decide +kernel
theorem dX7_add_9 : decode cX7_add 9 = .ok (.iastore, 1) := by decide +kernel
theorem dX7_add_10 : decode cX7_add 10 = .ok (.aload_n 0, 1) := by decide +kernel
theorem dX7_add_11 : decode cX7_add 11 = .ok (.dup, 1) := by decide +kernel
theorem dX7_add_12 : decode cX7_add 12 = .ok (.getfield 15, 3) := by decide +kernel
theorem dX7_add_15 : decode cX7_add 15 = .ok (.iconst 1, 1) := by decide +kernel
theorem dX7_add_16 : decode cX7_add 16 = .ok (.iadd, 1) := by decide +kernel
theorem dX7_add_17 : decode cX7_add 17 = .ok (.putfield 15, 3) := by decide +kernel
theorem dX7_add_20 : decode cX7_add 20 = .ok (.aload_n 0, 1) := by decide +kernel
theorem dX7_add_21 : decode cX7_add 21 = .ok (.getfield 15, 3) := by decide +kernel
theorem dX7_add_24 : decode cX7_add 24 = .ok (.ireturn, 1) := by decide +kernel
theorem dX7_forgetLetters_0 : decode cX7_forgetLetters 0 = .ok (.aload_n 0, 1) := by decide +kernel
theorem dX7_forgetLetters_1 : decode cX7_forgetLetters 1 = .ok (.iconst 0, 1) := by decide +kernel
theorem dX7_forgetLetters_2 : decode cX7_forgetLetters 2 = .ok (.putfield 15, 3) := by decide +kernel
theorem dX7_forgetLetters_5 : decode cX7_forgetLetters 5 = .ok (.return_, 1) := by decide +kernel
theorem dX7_tell_0 : decode cX7_tell 0 = .ok (.aload_n 0, 1) := by decide +kernel
theorem dX7_tell_1 : decode cX7_tell 1 = .ok (.invokevirtual 19, 3) := by decide +kernel
theorem dX7_tell_4 : decode cX7_tell 4 = .ok (.istore_n 2, 1) := by decide +kernel
theorem dX7_tell_5 : decode cX7_tell 5 = .ok (.iload_n 2, 1) := by decide +kernel
theorem dX7_tell_6 : decode cX7_tell 6 = .ok (.bipush (-9), 2) := by decide +kernel
theorem dX7_tell_8 : decode cX7_tell 8 = .ok (.if_icmp .eq 9, 3) := by decide +kernel
theorem dX7_tell_11 : decode cX7_tell 11 = .ok (.sipush (-1000), 3) := by decide +kernel
theorem dX7_tell_14 : decode cX7_tell 14 = .ok (.iload_n 2, 1) := by decide +kernel
theorem dX7_tell_15 : decode cX7_tell 15 = .ok (.isub, 1) := by decide +kernel
theorem dX7_tell_16 : decode cX7_tell 16 = .ok (.ireturn, 1) := by decide +kernel
theorem dX7_tell_17 : decode cX7_tell 17 = .ok (.iconst 0, 1) := by decide +kernel
theorem dX7_tell_18 : decode cX7_tell 18 = .ok (.istore_n 3, 1) := by decide +kernel
theorem dX7_tell_19 : decode cX7_tell 19 = .ok (.iconst 0, 1) := by decide +kernel
theorem dX7_tell_20 : decode cX7_tell 20 = .ok (.istore 4, 2) := by decide +kernel
theorem dX7_tell_22 : decode cX7_tell 22 = .ok (.iload 4, 2) := by decide +kernel
theorem dX7_tell_24 : decode cX7_tell 24 = .ok (.aload_n 0, 1) := by decide +kernel
theorem dX7_tell_25 : decode cX7_tell 25 = .ok (.getfield 15, 3) := by decide +kernel
theorem dX7_tell_28 : decode cX7_tell 28 = .ok (.if_icmp .ge 38, 3) := by decide +kernel
theorem dX7_tell_31 : decode cX7_tell 31 = .ok (.aload_n 0, 1) := by decide +kernel
theorem dX7_tell_32 : decode cX7_tell 32 = .ok (.iload 4, 2) := by decide +kernel
theorem dX7_tell_34 : decode cX7_tell 34 = .ok (.invokevirtual 23, 3) := by decide +kernel
theorem dX7_tell_37 : decode cX7_tell 37 = .ok (.ifCond .eq 23, 3) := by decide +kernel
theorem dX7_tell_40 : decode cX7_tell 40 = .ok (.aload_n 0, 1) := by decide +kernel
theorem dX7_tell_41 : decode cX7_tell 41 = .ok (.aload_n 1, 1) := by decide +kernel
theorem dX7_tell_42 : decode cX7_tell 42 = .ok (.iload 4, 2) := by decide +kernel
theorem dX7_tell_44 : decode cX7_tell 44 = .ok (.invokevirtual 27, 3) := by decide +kernel
theorem dX7_tell_47 : decode cX7_tell 47 = .ok (.ifCond .ne 10, 3) := by decide +kernel
theorem dX7_tell_50 : decode cX7_tell 50 = .ok (.sipush (-2000), 3) := by decide +kernel
theorem dX7_tell_53 : decode cX7_tell 53 = .ok (.iload 4, 2) := by decide +kernel
theorem dX7_tell_55 : decode cX7_tell 55 = .ok (.isub, 1) := by decide +kernel
theorem dX7_tell_56 : decode cX7_tell 56 = .ok (.ireturn, 1) := by decide +kernel
theorem dX7_tell_57 : decode cX7_tell 57 = .ok (.iinc 3 1, 3) := by decide +kernel
theorem dX7_tell_60 : decode cX7_tell 60 = .ok (.iinc 4 1, 3) := by decide +kernel
theorem dX7_tell_63 : decode cX7_tell 63 = .ok (.goto (-41), 3) := by decide +kernel
theorem dX7_tell_66 : decode cX7_tell 66 = .ok (.iload_n 3, 1) := by decide +kernel
theorem dX7_tell_67 : decode cX7_tell 67 = .ok (.ireturn, 1) := by decide +kernel
theorem dX7_isStart_0 : decode cX7_isStart 0 = .ok (.iload_n 1, 1) := by decide +kernel
theorem dX7_isStart_1 : decode cX7_isStart 1 = .ok (.ifCond .eq 16, 3) := by decide +kernel
theorem dX7_isStart_4 : decode cX7_isStart 4 = .ok (.aload_n 0, 1) := by decide +kernel
theorem dX7_isStart_5 : decode cX7_isStart 5 = .ok (.getfield 9, 3) := by decide +kernel
theorem dX7_isStart_8 : decode cX7_isStart 8 = .ok (.iload_n 1, 1) := by decide +kernel
theorem dX7_isStart_9 : decode cX7_isStart 9 = .ok (.iconst 1, 1) := by decide +kernel
theorem dX7_isStart_10 : decode cX7_isStart 10 = .ok (.isub, 1) := by decide +kernel
theorem dX7_isStart_11 : decode cX7_isStart 11 = .ok (.iaload, 1) := by decide +kernel
theorem dX7_isStart_12 : decode cX7_isStart 12 = .ok (.bipush 59, 2) := by decide +kernel
theorem dX7_isStart_14 : decode cX7_isStart 14 = .ok (.if_icmp .ne 7, 3) := by decide +kernel
theorem dX7_isStart_17 : decode cX7_isStart 17 = .ok (.iconst 1, 1) := by decide +kernel
theorem dX7_isStart_18 : decode cX7_isStart 18 = .ok (.goto 4, 3) := by decide +kernel
theorem dX7_isStart_21 : decode cX7_isStart 21 = .ok (.iconst 0, 1) := by decide +kernel
theorem dX7_isStart_22 : decode cX7_isStart 22 = .ok (.ireturn, 1) := by decide +kernel
theorem dX7_firstWrongLetter_0 : decode cX7_firstWrongLetter 0 = .ok (.ldc 31, 2) := by decide +kernel
theorem dX7_firstWrongLetter_2 : decode cX7_firstWrongLetter 2 = .ok (.astore_n 1, 1) := by decide +kernel
theorem dX7_firstWrongLetter_3 : decode cX7_firstWrongLetter 3 = .ok (.iconst 0, 1) := by decide +kernel
theorem dX7_firstWrongLetter_4 : decode cX7_firstWrongLetter 4 = .ok (.istore_n 2, 1) := by decide +kernel
theorem dX7_firstWrongLetter_5 : decode cX7_firstWrongLetter 5 = .ok (.iconst 0, 1) := by decide +kernel
theorem dX7_firstWrongLetter_6 : decode cX7_firstWrongLetter 6 = .ok (.istore_n 3, 1) := by decide +kernel
theorem dX7_firstWrongLetter_7 : decode cX7_firstWrongLetter 7 = .ok (.iload_n 3, 1) := by decide +kernel
theorem dX7_firstWrongLetter_8 : decode cX7_firstWrongLetter 8 = .ok (.aload_n 0, 1) := by decide +kernel
theorem dX7_firstWrongLetter_9 : decode cX7_firstWrongLetter 9 = .ok (.getfield 15, 3) := by decide +kernel
theorem dX7_firstWrongLetter_12 : decode cX7_firstWrongLetter 12 = .ok (.if_icmp .ge 58, 3) := by decide +kernel
theorem dX7_firstWrongLetter_15 : decode cX7_firstWrongLetter 15 = .ok (.iload_n 2, 1) := by decide +kernel
theorem dX7_firstWrongLetter_16 : decode cX7_firstWrongLetter 16 = .ok (.aload_n 1, 1) := by decide +kernel
theorem dX7_firstWrongLetter_17 : decode cX7_firstWrongLetter 17 = .ok (.invokevirtual 33, 3) := by decide +kernel
theorem dX7_firstWrongLetter_20 : decode cX7_firstWrongLetter 20 = .ok (.if_icmp .lt 15, 3) := by decide +kernel
theorem dX7_firstWrongLetter_23 : decode cX7_firstWrongLetter 23 = .ok (.aload_n 0, 1) := by decide +kernel
theorem dX7_firstWrongLetter_24 : decode cX7_firstWrongLetter 24 = .ok (.getfield 9, 3) := by decide +kernel
theorem dX7_firstWrongLetter_27 : decode cX7_firstWrongLetter 27 = .ok (.iload_n 3, 1) := by decide +kernel
theorem dX7_firstWrongLetter_28 : decode cX7_firstWrongLetter 28 = .ok (.iaload, 1) := by decide +kernel
theorem dX7_firstWrongLetter_29 : decode cX7_firstWrongLetter 29 = .ok (.invokestatic 38, 3) := by decide +kernel
theorem dX7_firstWrongLetter_32 : decode cX7_firstWrongLetter 32 = .ok (.astore_n 1, 1) := by decide +kernel
theorem dX7_firstWrongLetter_33 : decode cX7_firstWrongLetter 33 = .ok (.iconst 0, 1) := by decide +kernel
theorem dX7_firstWrongLetter_34 : decode cX7_firstWrongLetter 34 = .ok (.istore_n 2, 1) := by decide +kernel
theorem dX7_firstWrongLetter_35 : decode cX7_firstWrongLetter 35 = .ok (.aload_n 1, 1) := by decide +kernel
theorem dX7_firstWrongLetter_36 : decode cX7_firstWrongLetter 36 = .ok (.invokevirtual 42, 3) := by decide +kernel
theorem dX7_firstWrongLetter_39 : decode cX7_firstWrongLetter 39 = .ok (.ifCond .ne 20, 3) := by decide +kernel
theorem dX7_firstWrongLetter_42 : decode cX7_firstWrongLetter 42 = .ok (.aload_n 0, 1) := by decide +kernel
theorem dX7_firstWrongLetter_43 : decode cX7_firstWrongLetter 43 = .ok (.getfield 9, 3) := by decide +kernel
theorem dX7_firstWrongLetter_46 : decode cX7_firstWrongLetter 46 = .ok (.iload_n 3, 1) := by decide +kernel
theorem dX7_firstWrongLetter_47 : decode cX7_firstWrongLetter 47 = .ok (.iaload, 1) := by decide +kernel
theorem dX7_firstWrongLetter_48 : decode cX7_firstWrongLetter 48 = .ok (.aload_n 1, 1) := by decide +kernel
theorem dX7_firstWrongLetter_49 : decode cX7_firstWrongLetter 49 = .ok (.iload_n 2, 1) := by decide +kernel
theorem dX7_firstWrongLetter_50 : decode cX7_firstWrongLetter 50 = .ok (.invokevirtual 46, 3) := by decide +kernel
theorem dX7_firstWrongLetter_53 : decode cX7_firstWrongLetter 53 = .ok (.invokestatic 50, 3) := by decide +kernel
theorem dX7_firstWrongLetter_56 : decode cX7_firstWrongLetter 56 = .ok (.ifCond .ne 5, 3) := by decide +kernel
theorem dX7_firstWrongLetter_59 : decode cX7_firstWrongLetter 59 = .ok (.iload_n 3, 1) := by decide +kernel
theorem dX7_firstWrongLetter_60 : decode cX7_firstWrongLetter 60 = .ok (.ireturn, 1) := by decide +kernel
theorem dX7_firstWrongLetter_61 : decode cX7_firstWrongLetter 61 = .ok (.iinc 2 1, 3) := by decide +kernel
theorem dX7_firstWrongLetter_64 : decode cX7_firstWrongLetter 64 = .ok (.iinc 3 1, 3) := by decide +kernel
theorem dX7_firstWrongLetter_67 : decode cX7_firstWrongLetter 67 = .ok (.goto (-60), 3) := by decide +kernel
theorem dX7_firstWrongLetter_70 : decode cX7_firstWrongLetter 70 = .ok (.aload_n 0, 1) := by decide +kernel
theorem dX7_firstWrongLetter_71 : decode cX7_firstWrongLetter 71 = .ok (.getfield 15, 3) := by decide +kernel
theorem dX7_firstWrongLetter_74 : decode cX7_firstWrongLetter 74 = .ok (.ifCond .le 16, 3) := by decide +kernel
theorem dX7_firstWrongLetter_77 : decode cX7_firstWrongLetter 77 = .ok (.iload_n 2, 1) := by decide +kernel
theorem dX7_firstWrongLetter_78 : decode cX7_firstWrongLetter 78 = .ok (.aload_n 1, 1) := by decide +kernel
theorem dX7_firstWrongLetter_79 : decode cX7_firstWrongLetter 79 = .ok (.invokevirtual 33, 3) := by decide +kernel
theorem dX7_firstWrongLetter_82 : decode cX7_firstWrongLetter 82 = .ok (.if_icmp .ne 8, 3) := by decide +kernel
theorem dX7_firstWrongLetter_85 : decode cX7_firstWrongLetter 85 = .ok (.bipush (-9), 2) := by decide +kernel
theorem dX7_firstWrongLetter_87 : decode cX7_firstWrongLetter 87 = .ok (.goto 7, 3) := by decide +kernel
theorem dX7_firstWrongLetter_90 : decode cX7_firstWrongLetter 90 = .ok (.aload_n 0, 1) := by decide +kernel
theorem dX7_firstWrongLetter_91 : decode cX7_firstWrongLetter 91 = .ok (.getfield 15, 3) := by decide +kernel
theorem dX7_firstWrongLetter_94 : decode cX7_firstWrongLetter 94 = .ok (.ireturn, 1) := by decide +kernel
theorem dX7_shapeOf_0 : decode cX7_shapeOf 0 = .ok (.iload_n 0, 1) := by decide +kernel
theorem dX7_shapeOf_1 : decode cX7_shapeOf 1 = .ok (.tableswitch 124 98 119 #[115, 124, 124, 124, 124, 124, 124, 124, 124, 124, 124, 124, 118, 109, 103, 124, 106, 112, 124, 124, 124, 121], 103) := by decide +kernel
theorem dX7_shapeOf_104 : decode cX7_shapeOf 104 = .ok (.ldc 54, 2) := by decide +kernel
theorem dX7_shapeOf_106 : decode cX7_shapeOf 106 = .ok (.areturn, 1) := by decide +kernel
theorem dX7_shapeOf_107 : decode cX7_shapeOf 107 = .ok (.ldc 56, 2) := by decide +kernel
theorem dX7_shapeOf_109 : decode cX7_shapeOf 109 = .ok (.areturn, 1) := by decide +kernel
theorem dX7_shapeOf_110 : decode cX7_shapeOf 110 = .ok (.ldc 58, 2) := by decide +kernel
theorem dX7_shapeOf_112 : decode cX7_shapeOf 112 = .ok (.areturn, 1) := by decide +kernel
theorem dX7_shapeOf_113 : decode cX7_shapeOf 113 = .ok (.ldc 60, 2) := by decide +kernel
theorem dX7_shapeOf_115 : decode cX7_shapeOf 115 = .ok (.areturn, 1) := by decide +kernel
theorem dX7_shapeOf_116 : decode cX7_shapeOf 116 = .ok (.ldc 62, 2) := by decide +kernel
theorem dX7_shapeOf_118 : decode cX7_shapeOf 118 = .ok (.areturn, 1) := by decide +kernel
theorem dX7_shapeOf_119 : decode cX7_shapeOf 119 = .ok (.ldc 64, 2) := by decide +kernel
theorem dX7_shapeOf_121 : decode cX7_shapeOf 121 = .ok (.areturn, 1) := by decide +kernel
theorem dX7_shapeOf_122 : decode cX7_shapeOf 122 = .ok (.ldc 66, 2) := by decide +kernel
theorem dX7_shapeOf_124 : decode cX7_shapeOf 124 = .ok (.areturn, 1) := by decide +kernel
theorem dX7_shapeOf_125 : decode cX7_shapeOf 125 = .ok (.ldc 31, 2) := by decide +kernel
theorem dX7_shapeOf_127 : decode cX7_shapeOf 127 = .ok (.areturn, 1) := by decide +kernel
theorem dX7_fits_0 : decode cX7_fits 0 = .ok (.iload_n 1, 1) := by decide +kernel
theorem dX7_fits_1 : decode cX7_fits 1 = .ok (.lookupswitch 61 #[(48, 43), (107, 27)], 27) := by decide +kernel
theorem dX7_fits_28 : decode cX7_fits 28 = .ok (.ldc 68, 2) := by decide +kernel
theorem dX7_fits_30 : decode cX7_fits 30 = .ok (.iload_n 0, 1) := by decide +kernel
theorem dX7_fits_31 : decode cX7_fits 31 = .ok (.i2c, 1) := by decide +kernel
theorem dX7_fits_32 : decode cX7_fits 32 = .ok (.invokevirtual 70, 3) := by decide +kernel
theorem dX7_fits_35 : decode cX7_fits 35 = .ok (.ifCond .lt 7, 3) := by decide +kernel
theorem dX7_fits_38 : decode cX7_fits 38 = .ok (.iconst 1, 1) := by decide +kernel
theorem dX7_fits_39 : decode cX7_fits 39 = .ok (.goto 4, 3) := by decide +kernel
theorem dX7_fits_42 : decode cX7_fits 42 = .ok (.iconst 0, 1) := by decide +kernel
theorem dX7_fits_43 : decode cX7_fits 43 = .ok (.ireturn, 1) := by decide +kernel
theorem dX7_fits_44 : decode cX7_fits 44 = .ok (.iload_n 0, 1) := by decide +kernel
theorem dX7_fits_45 : decode cX7_fits 45 = .ok (.bipush 48, 2) := by decide +kernel
theorem dX7_fits_47 : decode cX7_fits 47 = .ok (.if_icmp .lt 13, 3) := by decide +kernel
theorem dX7_fits_50 : decode cX7_fits 50 = .ok (.iload_n 0, 1) := by decide +kernel
theorem dX7_fits_51 : decode cX7_fits 51 = .ok (.bipush 57, 2) := by decide +kernel
theorem dX7_fits_53 : decode cX7_fits 53 = .ok (.if_icmp .gt 7, 3) := by decide +kernel
theorem dX7_fits_56 : decode cX7_fits 56 = .ok (.iconst 1, 1) := by decide +kernel
theorem dX7_fits_57 : decode cX7_fits 57 = .ok (.goto 4, 3) := by decide +kernel
theorem dX7_fits_60 : decode cX7_fits 60 = .ok (.iconst 0, 1) := by decide +kernel
theorem dX7_fits_61 : decode cX7_fits 61 = .ok (.ireturn, 1) := by decide +kernel
theorem dX7_fits_62 : decode cX7_fits 62 = .ok (.iload_n 0, 1) := by decide +kernel
theorem dX7_fits_63 : decode cX7_fits 63 = .ok (.iload_n 1, 1) := by decide +kernel
theorem dX7_fits_64 : decode cX7_fits 64 = .ok (.if_icmp .ne 7, 3) := by decide +kernel
theorem dX7_fits_67 : decode cX7_fits 67 = .ok (.iconst 1, 1) := by decide +kernel
theorem dX7_fits_68 : decode cX7_fits 68 = .ok (.goto 4, 3) := by decide +kernel
theorem dX7_fits_71 : decode cX7_fits 71 = .ok (.iconst 0, 1) := by decide +kernel
theorem dX7_fits_72 : decode cX7_fits 72 = .ok (.ireturn, 1) := by decide +kernel
theorem dX7_digit_0 : decode cX7_digit 0 = .ok (.iload_n 1, 1) := by decide +kernel
theorem dX7_digit_1 : decode cX7_digit 1 = .ok (.aload_n 0, 1) := by decide +kernel
theorem dX7_digit_2 : decode cX7_digit 2 = .ok (.getfield 15, 3) := by decide +kernel
theorem dX7_digit_5 : decode cX7_digit 5 = .ok (.if_icmp .ge 15, 3) := by decide +kernel
theorem dX7_digit_8 : decode cX7_digit 8 = .ok (.aload_n 0, 1) := by decide +kernel
theorem dX7_digit_9 : decode cX7_digit 9 = .ok (.getfield 9, 3) := by decide +kernel
theorem dX7_digit_12 : decode cX7_digit 12 = .ok (.iload_n 1, 1) := by decide +kernel
theorem dX7_digit_13 : decode cX7_digit 13 = .ok (.iaload, 1) := by decide +kernel
theorem dX7_digit_14 : decode cX7_digit 14 = .ok (.bipush 48, 2) := by decide +kernel
theorem dX7_digit_16 : decode cX7_digit 16 = .ok (.isub, 1) := by decide +kernel
theorem dX7_digit_17 : decode cX7_digit 17 = .ok (.goto 4, 3) := by decide +kernel
theorem dX7_digit_20 : decode cX7_digit 20 = .ok (.iconst 0, 1) := by decide +kernel
theorem dX7_digit_21 : decode cX7_digit 21 = .ok (.ireturn, 1) := by decide +kernel
theorem dX7_number_0 : decode cX7_number 0 = .ok (.bipush 10, 2) := by decide +kernel
theorem dX7_number_2 : decode cX7_number 2 = .ok (.aload_n 0, 1) := by decide +kernel
theorem dX7_number_3 : decode cX7_number 3 = .ok (.iload_n 1, 1) := by decide +kernel
theorem dX7_number_4 : decode cX7_number 4 = .ok (.invokevirtual 74, 3) := by decide +kernel
theorem dX7_number_7 : decode cX7_number 7 = .ok (.imul, 1) := by decide +kernel
theorem dX7_number_8 : decode cX7_number 8 = .ok (.aload_n 0, 1) := by decide +kernel
theorem dX7_number_9 : decode cX7_number 9 = .ok (.iload_n 1, 1) := by decide +kernel
theorem dX7_number_10 : decode cX7_number 10 = .ok (.iconst 1, 1) := by decide +kernel
theorem dX7_number_11 : decode cX7_number 11 = .ok (.iadd, 1) := by decide +kernel
theorem dX7_number_12 : decode cX7_number 12 = .ok (.invokevirtual 74, 3) := by decide +kernel
theorem dX7_number_15 : decode cX7_number 15 = .ok (.iadd, 1) := by decide +kernel
theorem dX7_number_16 : decode cX7_number 16 = .ok (.ireturn, 1) := by decide +kernel
theorem dX7_carryOut_0 : decode cX7_carryOut 0 = .ok (.aload_n 0, 1) := by decide +kernel
theorem dX7_carryOut_1 : decode cX7_carryOut 1 = .ok (.getfield 9, 3) := by decide +kernel
theorem dX7_carryOut_4 : decode cX7_carryOut 4 = .ok (.iload_n 2, 1) := by decide +kernel
theorem dX7_carryOut_5 : decode cX7_carryOut 5 = .ok (.iaload, 1) := by decide +kernel
theorem dX7_carryOut_6 : decode cX7_carryOut 6 = .ok (.tableswitch 181 98 115 #[157, 181, 181, 181, 181, 181, 181, 181, 181, 181, 181, 181, 169, 119, 86, 181, 93, 138], 86) := by decide +kernel
theorem dX7_carryOut_92 : decode cX7_carryOut 92 = .ok (.aload_n 0, 1) := by decide +kernel
theorem dX7_carryOut_93 : decode cX7_carryOut 93 = .ok (.aload_n 1, 1) := by decide +kernel
theorem dX7_carryOut_94 : decode cX7_carryOut 94 = .ok (.iload_n 2, 1) := by decide +kernel
theorem dX7_carryOut_95 : decode cX7_carryOut 95 = .ok (.invokevirtual 77, 3) := by decide +kernel
theorem dX7_carryOut_98 : decode cX7_carryOut 98 = .ok (.ireturn, 1) := by decide +kernel
theorem dX7_carryOut_99 : decode cX7_carryOut 99 = .ok (.aload_n 1, 1) := by decide +kernel
theorem dX7_carryOut_100 : decode cX7_carryOut 100 = .ok (.aload_n 0, 1) := by decide +kernel
theorem dX7_carryOut_101 : decode cX7_carryOut 101 = .ok (.iload_n 2, 1) := by decide +kernel
theorem dX7_carryOut_102 : decode cX7_carryOut 102 = .ok (.iconst 1, 1) := by decide +kernel
theorem dX7_carryOut_103 : decode cX7_carryOut 103 = .ok (.iadd, 1) := by decide +kernel
theorem dX7_carryOut_104 : decode cX7_carryOut 104 = .ok (.invokevirtual 74, 3) := by decide +kernel
theorem dX7_carryOut_107 : decode cX7_carryOut 107 = .ok (.aload_n 0, 1) := by decide +kernel
theorem dX7_carryOut_108 : decode cX7_carryOut 108 = .ok (.iload_n 2, 1) := by decide +kernel
theorem dX7_carryOut_109 : decode cX7_carryOut 109 = .ok (.iconst 2, 1) := by decide +kernel
theorem dX7_carryOut_110 : decode cX7_carryOut 110 = .ok (.iadd, 1) := by decide +kernel
theorem dX7_carryOut_111 : decode cX7_carryOut 111 = .ok (.invokevirtual 74, 3) := by decide +kernel
theorem dX7_carryOut_114 : decode cX7_carryOut 114 = .ok (.aload_n 0, 1) := by decide +kernel
theorem dX7_carryOut_115 : decode cX7_carryOut 115 = .ok (.iload_n 2, 1) := by decide +kernel
theorem dX7_carryOut_116 : decode cX7_carryOut 116 = .ok (.iconst 3, 1) := by decide +kernel
theorem dX7_carryOut_117 : decode cX7_carryOut 117 = .ok (.iadd, 1) := by decide +kernel
theorem dX7_carryOut_118 : decode cX7_carryOut 118 = .ok (.invokevirtual 80, 3) := by decide +kernel
theorem dX7_carryOut_121 : decode cX7_carryOut 121 = .ok (.invokestatic 83, 3) := by decide +kernel
theorem dX7_carryOut_124 : decode cX7_carryOut 124 = .ok (.ireturn, 1) := by decide +kernel
theorem dX7_carryOut_125 : decode cX7_carryOut 125 = .ok (.aload_n 1, 1) := by decide +kernel
theorem dX7_carryOut_126 : decode cX7_carryOut 126 = .ok (.aload_n 0, 1) := by decide +kernel
theorem dX7_carryOut_127 : decode cX7_carryOut 127 = .ok (.iload_n 2, 1) := by decide +kernel
theorem dX7_carryOut_128 : decode cX7_carryOut 128 = .ok (.iconst 1, 1) := by decide +kernel
theorem dX7_carryOut_129 : decode cX7_carryOut 129 = .ok (.iadd, 1) := by decide +kernel
theorem dX7_carryOut_130 : decode cX7_carryOut 130 = .ok (.invokevirtual 74, 3) := by decide +kernel
theorem dX7_carryOut_133 : decode cX7_carryOut 133 = .ok (.aload_n 0, 1) := by decide +kernel
theorem dX7_carryOut_134 : decode cX7_carryOut 134 = .ok (.iload_n 2, 1) := by decide +kernel
theorem dX7_carryOut_135 : decode cX7_carryOut 135 = .ok (.iconst 2, 1) := by decide +kernel
theorem dX7_carryOut_136 : decode cX7_carryOut 136 = .ok (.iadd, 1) := by decide +kernel
theorem dX7_carryOut_137 : decode cX7_carryOut 137 = .ok (.invokevirtual 80, 3) := by decide +kernel
theorem dX7_carryOut_140 : decode cX7_carryOut 140 = .ok (.invokestatic 87, 3) := by decide +kernel
theorem dX7_carryOut_143 : decode cX7_carryOut 143 = .ok (.ireturn, 1) := by decide +kernel
theorem dX7_carryOut_144 : decode cX7_carryOut 144 = .ok (.aload_n 1, 1) := by decide +kernel
theorem dX7_carryOut_145 : decode cX7_carryOut 145 = .ok (.aload_n 0, 1) := by decide +kernel
theorem dX7_carryOut_146 : decode cX7_carryOut 146 = .ok (.iload_n 2, 1) := by decide +kernel
theorem dX7_carryOut_147 : decode cX7_carryOut 147 = .ok (.iconst 1, 1) := by decide +kernel
theorem dX7_carryOut_148 : decode cX7_carryOut 148 = .ok (.iadd, 1) := by decide +kernel
theorem dX7_carryOut_149 : decode cX7_carryOut 149 = .ok (.invokevirtual 74, 3) := by decide +kernel
theorem dX7_carryOut_152 : decode cX7_carryOut 152 = .ok (.aload_n 0, 1) := by decide +kernel
theorem dX7_carryOut_153 : decode cX7_carryOut 153 = .ok (.iload_n 2, 1) := by decide +kernel
theorem dX7_carryOut_154 : decode cX7_carryOut 154 = .ok (.iconst 2, 1) := by decide +kernel
theorem dX7_carryOut_155 : decode cX7_carryOut 155 = .ok (.iadd, 1) := by decide +kernel
theorem dX7_carryOut_156 : decode cX7_carryOut 156 = .ok (.invokevirtual 74, 3) := by decide +kernel
theorem dX7_carryOut_159 : decode cX7_carryOut 159 = .ok (.invokestatic 91, 3) := by decide +kernel
theorem dX7_carryOut_162 : decode cX7_carryOut 162 = .ok (.ireturn, 1) := by decide +kernel
theorem dX7_carryOut_163 : decode cX7_carryOut 163 = .ok (.aload_n 1, 1) := by decide +kernel
theorem dX7_carryOut_164 : decode cX7_carryOut 164 = .ok (.aload_n 0, 1) := by decide +kernel
theorem dX7_carryOut_165 : decode cX7_carryOut 165 = .ok (.iload_n 2, 1) := by decide +kernel
theorem dX7_carryOut_166 : decode cX7_carryOut 166 = .ok (.iconst 1, 1) := by decide +kernel
theorem dX7_carryOut_167 : decode cX7_carryOut 167 = .ok (.iadd, 1) := by decide +kernel
theorem dX7_carryOut_168 : decode cX7_carryOut 168 = .ok (.invokevirtual 74, 3) := by decide +kernel
theorem dX7_carryOut_171 : decode cX7_carryOut 171 = .ok (.invokestatic 94, 3) := by decide +kernel
theorem dX7_carryOut_174 : decode cX7_carryOut 174 = .ok (.ireturn, 1) := by decide +kernel
theorem dX7_carryOut_175 : decode cX7_carryOut 175 = .ok (.aload_n 1, 1) := by decide +kernel
theorem dX7_carryOut_176 : decode cX7_carryOut 176 = .ok (.aload_n 0, 1) := by decide +kernel
theorem dX7_carryOut_177 : decode cX7_carryOut 177 = .ok (.iload_n 2, 1) := by decide +kernel
theorem dX7_carryOut_178 : decode cX7_carryOut 178 = .ok (.iconst 1, 1) := by decide +kernel
theorem dX7_carryOut_179 : decode cX7_carryOut 179 = .ok (.iadd, 1) := by decide +kernel
theorem dX7_carryOut_180 : decode cX7_carryOut 180 = .ok (.invokevirtual 74, 3) := by decide +kernel
theorem dX7_carryOut_183 : decode cX7_carryOut 183 = .ok (.invokestatic 97, 3) := by decide +kernel
theorem dX7_carryOut_186 : decode cX7_carryOut 186 = .ok (.ireturn, 1) := by decide +kernel
theorem dX7_carryOut_187 : decode cX7_carryOut 187 = .ok (.aload_n 1, 1) := by decide +kernel
theorem dX7_carryOut_188 : decode cX7_carryOut 188 = .ok (.aload_n 0, 1) := by decide +kernel
theorem dX7_carryOut_189 : decode cX7_carryOut 189 = .ok (.iload_n 2, 1) := by decide +kernel
theorem dX7_carryOut_190 : decode cX7_carryOut 190 = .ok (.iconst 1, 1) := by decide +kernel
theorem dX7_carryOut_191 : decode cX7_carryOut 191 = .ok (.iadd, 1) := by decide +kernel
theorem dX7_carryOut_192 : decode cX7_carryOut 192 = .ok (.invokevirtual 80, 3) := by decide +kernel
theorem dX7_carryOut_195 : decode cX7_carryOut 195 = .ok (.invokestatic 100, 3) := by decide +kernel
theorem dX7_carryOut_198 : decode cX7_carryOut 198 = .ok (.ireturn, 1) := by decide +kernel
theorem dX7_carryOutPerson_0 : decode cX7_carryOutPerson 0 = .ok (.iload_n 2, 1) := by decide +kernel
theorem dX7_carryOutPerson_1 : decode cX7_carryOutPerson 1 = .ok (.iconst 1, 1) := by decide +kernel
theorem dX7_carryOutPerson_2 : decode cX7_carryOutPerson 2 = .ok (.iadd, 1) := by decide +kernel
theorem dX7_carryOutPerson_3 : decode cX7_carryOutPerson 3 = .ok (.aload_n 0, 1) := by decide +kernel
theorem dX7_carryOutPerson_4 : decode cX7_carryOutPerson 4 = .ok (.getfield 15, 3) := by decide +kernel
theorem dX7_carryOutPerson_7 : decode cX7_carryOutPerson 7 = .ok (.if_icmp .ge 20, 3) := by decide +kernel
theorem dX7_carryOutPerson_10 : decode cX7_carryOutPerson 10 = .ok (.ldc 68, 2) := by decide +kernel
theorem dX7_carryOutPerson_12 : decode cX7_carryOutPerson 12 = .ok (.aload_n 0, 1) := by decide +kernel
theorem dX7_carryOutPerson_13 : decode cX7_carryOutPerson 13 = .ok (.getfield 9, 3) := by decide +kernel
theorem dX7_carryOutPerson_16 : decode cX7_carryOutPerson 16 = .ok (.iload_n 2, 1) := by decide +kernel
theorem dX7_carryOutPerson_17 : decode cX7_carryOutPerson 17 = .ok (.iconst 1, 1) := by decide +kernel
theorem dX7_carryOutPerson_18 : decode cX7_carryOutPerson 18 = .ok (.iadd, 1) := by decide +kernel
theorem dX7_carryOutPerson_19 : decode cX7_carryOutPerson 19 = .ok (.iaload, 1) := by decide +kernel
theorem dX7_carryOutPerson_20 : decode cX7_carryOutPerson 20 = .ok (.i2c, 1) := by decide +kernel
theorem dX7_carryOutPerson_21 : decode cX7_carryOutPerson 21 = .ok (.invokevirtual 70, 3) := by decide +kernel
theorem dX7_carryOutPerson_24 : decode cX7_carryOutPerson 24 = .ok (.goto 5, 3) := by decide +kernel
theorem dX7_carryOutPerson_27 : decode cX7_carryOutPerson 27 = .ok (.bipush (-9), 2) := by decide +kernel
theorem dX7_carryOutPerson_29 : decode cX7_carryOutPerson 29 = .ok (.istore_n 3, 1) := by decide +kernel
theorem dX7_carryOutPerson_30 : decode cX7_carryOutPerson 30 = .ok (.iload_n 3, 1) := by decide +kernel
theorem dX7_carryOutPerson_31 : decode cX7_carryOutPerson 31 = .ok (.ifCond .lt 12, 3) := by decide +kernel
theorem dX7_carryOutPerson_34 : decode cX7_carryOutPerson 34 = .ok (.aload_n 1, 1) := by decide +kernel
theorem dX7_carryOutPerson_35 : decode cX7_carryOutPerson 35 = .ok (.getfield 103, 3) := by decide +kernel
theorem dX7_carryOutPerson_38 : decode cX7_carryOutPerson 38 = .ok (.bipush 8, 2) := by decide +kernel
theorem dX7_carryOutPerson_40 : decode cX7_carryOutPerson 40 = .ok (.if_icmp .lt 5, 3) := by decide +kernel
theorem dX7_carryOutPerson_43 : decode cX7_carryOutPerson 43 = .ok (.iconst 0, 1) := by decide +kernel
theorem dX7_carryOutPerson_44 : decode cX7_carryOutPerson 44 = .ok (.ireturn, 1) := by decide +kernel
theorem dX7_carryOutPerson_45 : decode cX7_carryOutPerson 45 = .ok (.aload_n 1, 1) := by decide +kernel
theorem dX7_carryOutPerson_46 : decode cX7_carryOutPerson 46 = .ok (.iload_n 3, 1) := by decide +kernel
theorem dX7_carryOutPerson_47 : decode cX7_carryOutPerson 47 = .ok (.aload_n 0, 1) := by decide +kernel
theorem dX7_carryOutPerson_48 : decode cX7_carryOutPerson 48 = .ok (.iload_n 2, 1) := by decide +kernel
theorem dX7_carryOutPerson_49 : decode cX7_carryOutPerson 49 = .ok (.iconst 2, 1) := by decide +kernel
theorem dX7_carryOutPerson_50 : decode cX7_carryOutPerson 50 = .ok (.iadd, 1) := by decide +kernel
theorem dX7_carryOutPerson_51 : decode cX7_carryOutPerson 51 = .ok (.invokevirtual 74, 3) := by decide +kernel
theorem dX7_carryOutPerson_54 : decode cX7_carryOutPerson 54 = .ok (.invokevirtual 108, 3) := by decide +kernel
theorem dX7_carryOutPerson_57 : decode cX7_carryOutPerson 57 = .ok (.iconst 1, 1) := by decide +kernel
theorem dX7_carryOutPerson_58 : decode cX7_carryOutPerson 58 = .ok (.ireturn, 1) := by decide +kernel
theorem dX7_carryOutRecalls_0 : decode cX7_carryOutRecalls 0 = .ok (.aload_n 0, 1) := by decide +kernel
theorem dX7_carryOutRecalls_1 : decode cX7_carryOutRecalls 1 = .ok (.iload_n 1, 1) := by decide +kernel
theorem dX7_carryOutRecalls_2 : decode cX7_carryOutRecalls 2 = .ok (.iload_n 2, 1) := by decide +kernel
theorem dX7_carryOutRecalls_3 : decode cX7_carryOutRecalls 3 = .ok (.invokevirtual 112, 3) := by decide +kernel
theorem dX7_carryOutRecalls_6 : decode cX7_carryOutRecalls 6 = .ok (.ifCond .ne 5, 3) := by decide +kernel
theorem dX7_carryOutRecalls_9 : decode cX7_carryOutRecalls 9 = .ok (.iconst 0, 1) := by decide +kernel
theorem dX7_carryOutRecalls_10 : decode cX7_carryOutRecalls 10 = .ok (.ireturn, 1) := by decide +kernel
theorem dX7_carryOutRecalls_11 : decode cX7_carryOutRecalls 11 = .ok (.aload_n 0, 1) := by decide +kernel
theorem dX7_carryOutRecalls_12 : decode cX7_carryOutRecalls 12 = .ok (.iload_n 1, 1) := by decide +kernel
theorem dX7_carryOutRecalls_13 : decode cX7_carryOutRecalls 13 = .ok (.iload_n 2, 1) := by decide +kernel
theorem dX7_carryOutRecalls_14 : decode cX7_carryOutRecalls 14 = .ok (.iload_n 3, 1) := by decide +kernel
theorem dX7_carryOutRecalls_15 : decode cX7_carryOutRecalls 15 = .ok (.invokevirtual 116, 3) := by decide +kernel
theorem dX7_carryOutRecalls_18 : decode cX7_carryOutRecalls 18 = .ok (.iconst 1, 1) := by decide +kernel
theorem dX7_carryOutRecalls_19 : decode cX7_carryOutRecalls 19 = .ok (.ireturn, 1) := by decide +kernel
theorem dX7_carryOutOwes_0 : decode cX7_carryOutOwes 0 = .ok (.aload_n 0, 1) := by decide +kernel
theorem dX7_carryOutOwes_1 : decode cX7_carryOutOwes 1 = .ok (.iload_n 1, 1) := by decide +kernel
theorem dX7_carryOutOwes_2 : decode cX7_carryOutOwes 2 = .ok (.invokevirtual 120, 3) := by decide +kernel
theorem dX7_carryOutOwes_5 : decode cX7_carryOutOwes 5 = .ok (.ifCond .ne 5, 3) := by decide +kernel
theorem dX7_carryOutOwes_8 : decode cX7_carryOutOwes 8 = .ok (.iconst 0, 1) := by decide +kernel
theorem dX7_carryOutOwes_9 : decode cX7_carryOutOwes 9 = .ok (.ireturn, 1) := by decide +kernel
theorem dX7_carryOutOwes_10 : decode cX7_carryOutOwes 10 = .ok (.aload_n 0, 1) := by decide +kernel
theorem dX7_carryOutOwes_11 : decode cX7_carryOutOwes 11 = .ok (.getfield 123, 3) := by decide +kernel
theorem dX7_carryOutOwes_14 : decode cX7_carryOutOwes 14 = .ok (.iload_n 1, 1) := by decide +kernel
theorem dX7_carryOutOwes_15 : decode cX7_carryOutOwes 15 = .ok (.iload_n 2, 1) := by decide +kernel
theorem dX7_carryOutOwes_16 : decode cX7_carryOutOwes 16 = .ok (.iastore, 1) := by decide +kernel
theorem dX7_carryOutOwes_17 : decode cX7_carryOutOwes 17 = .ok (.iconst 1, 1) := by decide +kernel
theorem dX7_carryOutOwes_18 : decode cX7_carryOutOwes 18 = .ok (.ireturn, 1) := by decide +kernel
theorem dX7_carryOutSpeaks_0 : decode cX7_carryOutSpeaks 0 = .ok (.aload_n 0, 1) := by decide +kernel
theorem dX7_carryOutSpeaks_1 : decode cX7_carryOutSpeaks 1 = .ok (.iload_n 1, 1) := by decide +kernel
theorem dX7_carryOutSpeaks_2 : decode cX7_carryOutSpeaks 2 = .ok (.iload_n 2, 1) := by decide +kernel
theorem dX7_carryOutSpeaks_3 : decode cX7_carryOutSpeaks 3 = .ok (.invokevirtual 126, 3) := by decide +kernel
theorem dX7_carryOutSpeaks_6 : decode cX7_carryOutSpeaks 6 = .ok (.ifCond .ne 5, 3) := by decide +kernel
theorem dX7_carryOutSpeaks_9 : decode cX7_carryOutSpeaks 9 = .ok (.iconst 0, 1) := by decide +kernel
theorem dX7_carryOutSpeaks_10 : decode cX7_carryOutSpeaks 10 = .ok (.ireturn, 1) := by decide +kernel
theorem dX7_carryOutSpeaks_11 : decode cX7_carryOutSpeaks 11 = .ok (.aload_n 0, 1) := by decide +kernel
theorem dX7_carryOutSpeaks_12 : decode cX7_carryOutSpeaks 12 = .ok (.iload_n 1, 1) := by decide +kernel
theorem dX7_carryOutSpeaks_13 : decode cX7_carryOutSpeaks 13 = .ok (.iload_n 2, 1) := by decide +kernel
theorem dX7_carryOutSpeaks_14 : decode cX7_carryOutSpeaks 14 = .ok (.invokevirtual 129, 3) := by decide +kernel
theorem dX7_carryOutSpeaks_17 : decode cX7_carryOutSpeaks 17 = .ok (.iconst 1, 1) := by decide +kernel
theorem dX7_carryOutSpeaks_18 : decode cX7_carryOutSpeaks 18 = .ok (.ireturn, 1) := by decide +kernel
theorem dX7_carryOutBack_0 : decode cX7_carryOutBack 0 = .ok (.aload_n 0, 1) := by decide +kernel
theorem dX7_carryOutBack_1 : decode cX7_carryOutBack 1 = .ok (.iload_n 1, 1) := by decide +kernel
theorem dX7_carryOutBack_2 : decode cX7_carryOutBack 2 = .ok (.invokevirtual 120, 3) := by decide +kernel
theorem dX7_carryOutBack_5 : decode cX7_carryOutBack 5 = .ok (.ifCond .eq 12, 3) := by decide +kernel
theorem dX7_carryOutBack_8 : decode cX7_carryOutBack 8 = .ok (.aload_n 0, 1) := by decide +kernel
theorem dX7_carryOutBack_9 : decode cX7_carryOutBack 9 = .ok (.getfield 132, 3) := by decide +kernel
theorem dX7_carryOutBack_12 : decode cX7_carryOutBack 12 = .ok (.iload_n 1, 1) := by decide +kernel
theorem dX7_carryOutBack_13 : decode cX7_carryOutBack 13 = .ok (.baload, 1) := by decide +kernel
theorem dX7_carryOutBack_14 : decode cX7_carryOutBack 14 = .ok (.ifCond .eq 5, 3) := by decide +kernel
theorem dX7_carryOutBack_17 : decode cX7_carryOutBack 17 = .ok (.iconst 0, 1) := by decide +kernel
theorem dX7_carryOutBack_18 : decode cX7_carryOutBack 18 = .ok (.ireturn, 1) := by decide +kernel
theorem dX7_carryOutBack_19 : decode cX7_carryOutBack 19 = .ok (.aload_n 0, 1) := by decide +kernel
theorem dX7_carryOutBack_20 : decode cX7_carryOutBack 20 = .ok (.iload_n 1, 1) := by decide +kernel
theorem dX7_carryOutBack_21 : decode cX7_carryOutBack 21 = .ok (.invokevirtual 136, 3) := by decide +kernel
theorem dX7_carryOutBack_24 : decode cX7_carryOutBack 24 = .ok (.iconst 1, 1) := by decide +kernel
theorem dX7_carryOutBack_25 : decode cX7_carryOutBack 25 = .ok (.ireturn, 1) := by decide +kernel
theorem dX7_carryOutNames_0 : decode cX7_carryOutNames 0 = .ok (.iload_n 1, 1) := by decide +kernel
theorem dX7_carryOutNames_1 : decode cX7_carryOutNames 1 = .ok (.iconst 3, 1) := by decide +kernel
theorem dX7_carryOutNames_2 : decode cX7_carryOutNames 2 = .ok (.if_icmp .le 5, 3) := by decide +kernel
theorem dX7_carryOutNames_5 : decode cX7_carryOutNames 5 = .ok (.iconst 0, 1) := by decide +kernel
theorem dX7_carryOutNames_6 : decode cX7_carryOutNames 6 = .ok (.ireturn, 1) := by decide +kernel
theorem dX7_carryOutNames_7 : decode cX7_carryOutNames 7 = .ok (.aload_n 0, 1) := by decide +kernel
theorem dX7_carryOutNames_8 : decode cX7_carryOutNames 8 = .ok (.iload_n 1, 1) := by decide +kernel
theorem dX7_carryOutNames_9 : decode cX7_carryOutNames 9 = .ok (.putfield 140, 3) := by decide +kernel
theorem dX7_carryOutNames_12 : decode cX7_carryOutNames 12 = .ok (.iconst 1, 1) := by decide +kernel
theorem dX7_carryOutNames_13 : decode cX7_carryOutNames 13 = .ok (.ireturn, 1) := by decide +kernel
theorem dX7_carryOutWeeks_0 : decode cX7_carryOutWeeks 0 = .ok (.iload_n 1, 1) := by decide +kernel
theorem dX7_carryOutWeeks_1 : decode cX7_carryOutWeeks 1 = .ok (.iconst 1, 1) := by decide +kernel
theorem dX7_carryOutWeeks_2 : decode cX7_carryOutWeeks 2 = .ok (.if_icmp .lt 21, 3) := by decide +kernel
theorem dX7_carryOutWeeks_5 : decode cX7_carryOutWeeks 5 = .ok (.iload_n 1, 1) := by decide +kernel
theorem dX7_carryOutWeeks_6 : decode cX7_carryOutWeeks 6 = .ok (.bipush 60, 2) := by decide +kernel
theorem dX7_carryOutWeeks_8 : decode cX7_carryOutWeeks 8 = .ok (.if_icmp .gt 15, 3) := by decide +kernel
theorem dX7_carryOutWeeks_11 : decode cX7_carryOutWeeks 11 = .ok (.aload_n 0, 1) := by decide +kernel
theorem dX7_carryOutWeeks_12 : decode cX7_carryOutWeeks 12 = .ok (.getfield 143, 3) := by decide +kernel
theorem dX7_carryOutWeeks_15 : decode cX7_carryOutWeeks 15 = .ok (.iload_n 1, 1) := by decide +kernel
theorem dX7_carryOutWeeks_16 : decode cX7_carryOutWeeks 16 = .ok (.iadd, 1) := by decide +kernel
theorem dX7_carryOutWeeks_17 : decode cX7_carryOutWeeks 17 = .ok (.sipush 999, 3) := by decide +kernel
theorem dX7_carryOutWeeks_20 : decode cX7_carryOutWeeks 20 = .ok (.if_icmp .le 5, 3) := by decide +kernel
theorem dX7_carryOutWeeks_23 : decode cX7_carryOutWeeks 23 = .ok (.iconst 0, 1) := by decide +kernel
theorem dX7_carryOutWeeks_24 : decode cX7_carryOutWeeks 24 = .ok (.ireturn, 1) := by decide +kernel
theorem dX7_carryOutWeeks_25 : decode cX7_carryOutWeeks 25 = .ok (.iconst 0, 1) := by decide +kernel
theorem dX7_carryOutWeeks_26 : decode cX7_carryOutWeeks 26 = .ok (.istore_n 2, 1) := by decide +kernel
theorem dX7_carryOutWeeks_27 : decode cX7_carryOutWeeks 27 = .ok (.iload_n 2, 1) := by decide +kernel
theorem dX7_carryOutWeeks_28 : decode cX7_carryOutWeeks 28 = .ok (.iload_n 1, 1) := by decide +kernel
theorem dX7_carryOutWeeks_29 : decode cX7_carryOutWeeks 29 = .ok (.if_icmp .ge 13, 3) := by decide +kernel
theorem dX7_carryOutWeeks_32 : decode cX7_carryOutWeeks 32 = .ok (.aload_n 0, 1) := by decide +kernel
theorem dX7_carryOutWeeks_33 : decode cX7_carryOutWeeks 33 = .ok (.invokevirtual 146, 3) := by decide +kernel
theorem dX7_carryOutWeeks_36 : decode cX7_carryOutWeeks 36 = .ok (.iinc 2 1, 3) := by decide +kernel
theorem dX7_carryOutWeeks_39 : decode cX7_carryOutWeeks 39 = .ok (.goto (-12), 3) := by decide +kernel
theorem dX7_carryOutWeeks_42 : decode cX7_carryOutWeeks 42 = .ok (.iconst 1, 1) := by decide +kernel
theorem dX7_carryOutWeeks_43 : decode cX7_carryOutWeeks 43 = .ok (.ireturn, 1) := by decide +kernel
theorem dX8_init_0 : decode cX8_init 0 = .ok (.aload_n 0, 1) := by decide +kernel
theorem dX8_init_1 : decode cX8_init 1 = .ok (.invokespecial 3, 3) := by decide +kernel
theorem dX8_init_4 : decode cX8_init 4 = .ok (.aload_n 0, 1) := by decide +kernel
theorem dX8_init_5 : decode cX8_init 5 = .ok (.bipush 8, 2) := by decide +kernel
theorem dX8_init_7 : decode cX8_init 7 = .ok (.newarray .int, 2) := by decide +kernel
theorem dX8_init_9 : decode cX8_init 9 = .ok (.putfield 9, 3) := by decide +kernel
theorem dX8_init_12 : decode cX8_init 12 = .ok (.aload_n 0, 1) := by decide +kernel
theorem dX8_init_13 : decode cX8_init 13 = .ok (.bipush 8, 2) := by decide +kernel
theorem dX8_init_15 : decode cX8_init 15 = .ok (.newarray .int, 2) := by decide +kernel
theorem dX8_init_17 : decode cX8_init 17 = .ok (.putfield 15, 3) := by decide +kernel
theorem dX8_init_20 : decode cX8_init 20 = .ok (.aload_n 0, 1) := by decide +kernel
theorem dX8_init_21 : decode cX8_init 21 = .ok (.bipush 8, 2) := by decide +kernel
theorem dX8_init_23 : decode cX8_init 23 = .ok (.newarray .int, 2) := by decide +kernel
theorem dX8_init_25 : decode cX8_init 25 = .ok (.putfield 18, 3) := by decide +kernel
theorem dX8_init_28 : decode cX8_init 28 = .ok (.aload_n 0, 1) := by decide +kernel
theorem dX8_init_29 : decode cX8_init 29 = .ok (.bipush 8, 2) := by decide +kernel
theorem dX8_init_31 : decode cX8_init 31 = .ok (.newarray .boolean, 2) := by decide +kernel
theorem dX8_init_33 : decode cX8_init 33 = .ok (.putfield 21, 3) := by decide +kernel
theorem dX8_init_36 : decode cX8_init 36 = .ok (.aload_n 0, 1) := by decide +kernel
theorem dX8_init_37 : decode cX8_init 37 = .ok (.bipush 64, 2) := by decide +kernel
theorem dX8_init_39 : decode cX8_init 39 = .ok (.newarray .int, 2) := by decide +kernel
theorem dX8_init_41 : decode cX8_init 41 = .ok (.putfield 25, 3) := by decide +kernel
theorem dX8_init_44 : decode cX8_init 44 = .ok (.aload_n 0, 1) := by decide +kernel
theorem dX8_init_45 : decode cX8_init 45 = .ok (.iconst 0, 1) := by decide +kernel
theorem dX8_init_46 : decode cX8_init 46 = .ok (.putfield 28, 3) := by decide +kernel
theorem dX8_init_49 : decode cX8_init 49 = .ok (.aload_n 0, 1) := by decide +kernel
theorem dX8_init_50 : decode cX8_init 50 = .ok (.iconst 1, 1) := by decide +kernel
theorem dX8_init_51 : decode cX8_init 51 = .ok (.putfield 32, 3) := by decide +kernel
theorem dX8_init_54 : decode cX8_init 54 = .ok (.aload_n 0, 1) := by decide +kernel
theorem dX8_init_55 : decode cX8_init 55 = .ok (.iconst 0, 1) := by decide +kernel
theorem dX8_init_56 : decode cX8_init 56 = .ok (.putfield 35, 3) := by decide +kernel
theorem dX8_init_59 : decode cX8_init 59 = .ok (.aload_n 0, 1) := by decide +kernel
theorem dX8_init_60 : decode cX8_init 60 = .ok (.aload_n 1, 1) := by decide +kernel
theorem dX8_init_61 : decode cX8_init 61 = .ok (.putfield 38, 3) := by decide +kernel
theorem dX8_init_64 : decode cX8_init 64 = .ok (.return_, 1) := by decide +kernel
theorem dX8_copy_0 : decode cX8_copy 0 = .ok (.aload_n 1, 1) := by decide +kernel
theorem dX8_copy_1 : decode cX8_copy 1 = .ok (.getfield 9, 3) := by decide +kernel
theorem dX8_copy_4 : decode cX8_copy 4 = .ok (.iconst 0, 1) := by decide +kernel
theorem dX8_copy_5 : decode cX8_copy 5 = .ok (.aload_n 0, 1) := by decide +kernel
theorem dX8_copy_6 : decode cX8_copy 6 = .ok (.getfield 9, 3) := by decide +kernel
theorem dX8_copy_9 : decode cX8_copy 9 = .ok (.iconst 0, 1) := by decide +kernel
theorem dX8_copy_10 : decode cX8_copy 10 = .ok (.bipush 8, 2) := by decide +kernel
theorem dX8_copy_12 : decode cX8_copy 12 = .ok (.invokestatic 42, 3) := by decide +kernel
theorem dX8_copy_15 : decode cX8_copy 15 = .ok (.aload_n 1, 1) := by decide +kernel
theorem dX8_copy_16 : decode cX8_copy 16 = .ok (.getfield 15, 3) := by decide +kernel
theorem dX8_copy_19 : decode cX8_copy 19 = .ok (.iconst 0, 1) := by decide +kernel
theorem dX8_copy_20 : decode cX8_copy 20 = .ok (.aload_n 0, 1) := by decide +kernel
theorem dX8_copy_21 : decode cX8_copy 21 = .ok (.getfield 15, 3) := by decide +kernel
theorem dX8_copy_24 : decode cX8_copy 24 = .ok (.iconst 0, 1) := by decide +kernel
theorem dX8_copy_25 : decode cX8_copy 25 = .ok (.bipush 8, 2) := by decide +kernel
theorem dX8_copy_27 : decode cX8_copy 27 = .ok (.invokestatic 42, 3) := by decide +kernel
theorem dX8_copy_30 : decode cX8_copy 30 = .ok (.aload_n 1, 1) := by decide +kernel
theorem dX8_copy_31 : decode cX8_copy 31 = .ok (.getfield 18, 3) := by decide +kernel
theorem dX8_copy_34 : decode cX8_copy 34 = .ok (.iconst 0, 1) := by decide +kernel
theorem dX8_copy_35 : decode cX8_copy 35 = .ok (.aload_n 0, 1) := by decide +kernel
theorem dX8_copy_36 : decode cX8_copy 36 = .ok (.getfield 18, 3) := by decide +kernel
theorem dX8_copy_39 : decode cX8_copy 39 = .ok (.iconst 0, 1) := by decide +kernel
theorem dX8_copy_40 : decode cX8_copy 40 = .ok (.bipush 8, 2) := by decide +kernel
theorem dX8_copy_42 : decode cX8_copy 42 = .ok (.invokestatic 42, 3) := by decide +kernel
theorem dX8_copy_45 : decode cX8_copy 45 = .ok (.iconst 0, 1) := by decide +kernel
theorem dX8_copy_46 : decode cX8_copy 46 = .ok (.istore_n 2, 1) := by decide +kernel
theorem dX8_copy_47 : decode cX8_copy 47 = .ok (.iload_n 2, 1) := by decide +kernel
theorem dX8_copy_48 : decode cX8_copy 48 = .ok (.bipush 8, 2) := by decide +kernel
theorem dX8_copy_50 : decode cX8_copy 50 = .ok (.if_icmp .ge 21, 3) := by decide +kernel
theorem dX8_copy_53 : decode cX8_copy 53 = .ok (.aload_n 0, 1) := by decide +kernel
theorem dX8_copy_54 : decode cX8_copy 54 = .ok (.getfield 21, 3) := by decide +kernel
theorem dX8_copy_57 : decode cX8_copy 57 = .ok (.iload_n 2, 1) := by decide +kernel
theorem dX8_copy_58 : decode cX8_copy 58 = .ok (.aload_n 1, 1) := by decide +kernel
theorem dX8_copy_59 : decode cX8_copy 59 = .ok (.getfield 21, 3) := by decide +kernel
theorem dX8_copy_62 : decode cX8_copy 62 = .ok (.iload_n 2, 1) := by decide +kernel
theorem dX8_copy_63 : decode cX8_copy 63 = .ok (.baload, 1) := by decide +kernel
theorem dX8_copy_64 : decode cX8_copy 64 = .ok (.bastore, 1) := by decide +kernel
theorem dX8_copy_65 : decode cX8_copy 65 = .ok (.iinc 2 1, 3) := by decide +kernel
theorem dX8_copy_68 : decode cX8_copy 68 = .ok (.goto (-21), 3) := by decide +kernel
theorem dX8_copy_71 : decode cX8_copy 71 = .ok (.aload_n 1, 1) := by decide +kernel
theorem dX8_copy_72 : decode cX8_copy 72 = .ok (.getfield 25, 3) := by decide +kernel
theorem dX8_copy_75 : decode cX8_copy 75 = .ok (.iconst 0, 1) := by decide +kernel
theorem dX8_copy_76 : decode cX8_copy 76 = .ok (.aload_n 0, 1) := by decide +kernel
theorem dX8_copy_77 : decode cX8_copy 77 = .ok (.getfield 25, 3) := by decide +kernel
theorem dX8_copy_80 : decode cX8_copy 80 = .ok (.iconst 0, 1) := by decide +kernel
theorem dX8_copy_81 : decode cX8_copy 81 = .ok (.bipush 64, 2) := by decide +kernel
theorem dX8_copy_83 : decode cX8_copy 83 = .ok (.invokestatic 42, 3) := by decide +kernel
theorem dX8_copy_86 : decode cX8_copy 86 = .ok (.aload_n 0, 1) := by decide +kernel
theorem dX8_copy_87 : decode cX8_copy 87 = .ok (.aload_n 1, 1) := by decide +kernel
theorem dX8_copy_88 : decode cX8_copy 88 = .ok (.getfield 28, 3) := by decide +kernel
theorem dX8_copy_91 : decode cX8_copy 91 = .ok (.putfield 28, 3) := by decide +kernel
theorem dX8_copy_94 : decode cX8_copy 94 = .ok (.aload_n 0, 1) := by decide +kernel
theorem dX8_copy_95 : decode cX8_copy 95 = .ok (.aload_n 1, 1) := by decide +kernel
theorem dX8_copy_96 : decode cX8_copy 96 = .ok (.getfield 32, 3) := by decide +kernel
theorem dX8_copy_99 : decode cX8_copy 99 = .ok (.putfield 32, 3) := by decide +kernel
theorem dX8_copy_102 : decode cX8_copy 102 = .ok (.aload_n 0, 1) := by decide +kernel
theorem dX8_copy_103 : decode cX8_copy 103 = .ok (.aload_n 1, 1) := by decide +kernel
theorem dX8_copy_104 : decode cX8_copy 104 = .ok (.getfield 35, 3) := by decide +kernel
theorem dX8_copy_107 : decode cX8_copy 107 = .ok (.putfield 35, 3) := by decide +kernel
theorem dX8_copy_110 : decode cX8_copy 110 = .ok (.return_, 1) := by decide +kernel
theorem dX8_has_0 : decode cX8_has 0 = .ok (.iload_n 1, 1) := by decide +kernel
theorem dX8_has_1 : decode cX8_has 1 = .ok (.ifCond .lt 15, 3) := by decide +kernel
theorem dX8_has_4 : decode cX8_has 4 = .ok (.iload_n 1, 1) := by decide +kernel
theorem dX8_has_5 : decode cX8_has 5 = .ok (.aload_n 0, 1) := by decide +kernel
theorem dX8_has_6 : decode cX8_has 6 = .ok (.getfield 28, 3) := by decide +kernel
theorem dX8_has_9 : decode cX8_has 9 = .ok (.if_icmp .ge 7, 3) := by decide +kernel
theorem dX8_has_12 : decode cX8_has 12 = .ok (.iconst 1, 1) := by decide +kernel
theorem dX8_has_13 : decode cX8_has 13 = .ok (.goto 4, 3) := by decide +kernel
theorem dX8_has_16 : decode cX8_has 16 = .ok (.iconst 0, 1) := by decide +kernel
theorem dX8_has_17 : decode cX8_has 17 = .ok (.ireturn, 1) := by decide +kernel
theorem dX8_areTwo_0 : decode cX8_areTwo 0 = .ok (.aload_n 0, 1) := by decide +kernel
theorem dX8_areTwo_1 : decode cX8_areTwo 1 = .ok (.iload_n 1, 1) := by decide +kernel
theorem dX8_areTwo_2 : decode cX8_areTwo 2 = .ok (.invokevirtual 48, 3) := by decide +kernel
theorem dX8_areTwo_5 : decode cX8_areTwo 5 = .ok (.ifCond .eq 20, 3) := by decide +kernel
theorem dX8_areTwo_8 : decode cX8_areTwo 8 = .ok (.aload_n 0, 1) := by decide +kernel
theorem dX8_areTwo_9 : decode cX8_areTwo 9 = .ok (.iload_n 2, 1) := by decide +kernel
theorem dX8_areTwo_10 : decode cX8_areTwo 10 = .ok (.invokevirtual 48, 3) := by decide +kernel
theorem dX8_areTwo_13 : decode cX8_areTwo 13 = .ok (.ifCond .eq 12, 3) := by decide +kernel
theorem dX8_areTwo_16 : decode cX8_areTwo 16 = .ok (.iload_n 1, 1) := by decide +kernel
theorem dX8_areTwo_17 : decode cX8_areTwo 17 = .ok (.iload_n 2, 1) := by decide +kernel
theorem dX8_areTwo_18 : decode cX8_areTwo 18 = .ok (.if_icmp .eq 7, 3) := by decide +kernel
theorem dX8_areTwo_21 : decode cX8_areTwo 21 = .ok (.iconst 1, 1) := by decide +kernel
theorem dX8_areTwo_22 : decode cX8_areTwo 22 = .ok (.goto 4, 3) := by decide +kernel
theorem dX8_areTwo_25 : decode cX8_areTwo 25 = .ok (.iconst 0, 1) := by decide +kernel
theorem dX8_areTwo_26 : decode cX8_areTwo 26 = .ok (.ireturn, 1) := by decide +kernel
theorem dX8_isHere_0 : decode cX8_isHere 0 = .ok (.aload_n 0, 1) := by decide +kernel
theorem dX8_isHere_1 : decode cX8_isHere 1 = .ok (.iload_n 1, 1) := by decide +kernel
theorem dX8_isHere_2 : decode cX8_isHere 2 = .ok (.invokevirtual 48, 3) := by decide +kernel
theorem dX8_isHere_5 : decode cX8_isHere 5 = .ok (.ifCond .eq 16, 3) := by decide +kernel
theorem dX8_isHere_8 : decode cX8_isHere 8 = .ok (.aload_n 0, 1) := by decide +kernel
theorem dX8_isHere_9 : decode cX8_isHere 9 = .ok (.getfield 21, 3) := by decide +kernel
theorem dX8_isHere_12 : decode cX8_isHere 12 = .ok (.iload_n 1, 1) := by decide +kernel
theorem dX8_isHere_13 : decode cX8_isHere 13 = .ok (.baload, 1) := by decide +kernel
theorem dX8_isHere_14 : decode cX8_isHere 14 = .ok (.ifCond .eq 7, 3) := by decide +kernel
theorem dX8_isHere_17 : decode cX8_isHere 17 = .ok (.iconst 1, 1) := by decide +kernel
theorem dX8_isHere_18 : decode cX8_isHere 18 = .ok (.goto 4, 3) := by decide +kernel
theorem dX8_isHere_21 : decode cX8_isHere 21 = .ok (.iconst 0, 1) := by decide +kernel
theorem dX8_isHere_22 : decode cX8_isHere 22 = .ok (.ireturn, 1) := by decide +kernel
theorem dX8_areTwoHere_0 : decode cX8_areTwoHere 0 = .ok (.iload_n 1, 1) := by decide +kernel
theorem dX8_areTwoHere_1 : decode cX8_areTwoHere 1 = .ok (.iload_n 2, 1) := by decide +kernel
theorem dX8_areTwoHere_2 : decode cX8_areTwoHere 2 = .ok (.if_icmp .eq 23, 3) := by decide +kernel
theorem dX8_areTwoHere_5 : decode cX8_areTwoHere 5 = .ok (.aload_n 0, 1) := by decide +kernel
theorem dX8_areTwoHere_6 : decode cX8_areTwoHere 6 = .ok (.iload_n 1, 1) := by decide +kernel
theorem dX8_areTwoHere_7 : decode cX8_areTwoHere 7 = .ok (.invokevirtual 52, 3) := by decide +kernel
theorem dX8_areTwoHere_10 : decode cX8_areTwoHere 10 = .ok (.ifCond .eq 15, 3) := by decide +kernel
theorem dX8_areTwoHere_13 : decode cX8_areTwoHere 13 = .ok (.aload_n 0, 1) := by decide +kernel
theorem dX8_areTwoHere_14 : decode cX8_areTwoHere 14 = .ok (.iload_n 2, 1) := by decide +kernel
theorem dX8_areTwoHere_15 : decode cX8_areTwoHere 15 = .ok (.invokevirtual 52, 3) := by decide +kernel
theorem dX8_areTwoHere_18 : decode cX8_areTwoHere 18 = .ok (.ifCond .eq 7, 3) := by decide +kernel
theorem dX8_areTwoHere_21 : decode cX8_areTwoHere 21 = .ok (.iconst 1, 1) := by decide +kernel
theorem dX8_areTwoHere_22 : decode cX8_areTwoHere 22 = .ok (.goto 4, 3) := by decide +kernel
theorem dX8_areTwoHere_25 : decode cX8_areTwoHere 25 = .ok (.iconst 0, 1) := by decide +kernel
theorem dX8_areTwoHere_26 : decode cX8_areTwoHere 26 = .ok (.ireturn, 1) := by decide +kernel
theorem dX8_mayBeNamed_0 : decode cX8_mayBeNamed 0 = .ok (.aload_n 0, 1) := by decide +kernel
theorem dX8_mayBeNamed_1 : decode cX8_mayBeNamed 1 = .ok (.getfield 38, 3) := by decide +kernel
theorem dX8_mayBeNamed_4 : decode cX8_mayBeNamed 4 = .ok (.aload_n 0, 1) := by decide +kernel
theorem dX8_mayBeNamed_5 : decode cX8_mayBeNamed 5 = .ok (.getfield 9, 3) := by decide +kernel
theorem dX8_mayBeNamed_8 : decode cX8_mayBeNamed 8 = .ok (.iload_n 1, 1) := by decide +kernel
theorem dX8_mayBeNamed_9 : decode cX8_mayBeNamed 9 = .ok (.iaload, 1) := by decide +kernel
theorem dX8_mayBeNamed_10 : decode cX8_mayBeNamed 10 = .ok (.aaload, 1) := by decide +kernel
theorem dX8_mayBeNamed_11 : decode cX8_mayBeNamed 11 = .ok (.aload_n 0, 1) := by decide +kernel
theorem dX8_mayBeNamed_12 : decode cX8_mayBeNamed 12 = .ok (.getfield 15, 3) := by decide +kernel
theorem dX8_mayBeNamed_15 : decode cX8_mayBeNamed 15 = .ok (.iload_n 1, 1) := by decide +kernel
theorem dX8_mayBeNamed_16 : decode cX8_mayBeNamed 16 = .ok (.iaload, 1) := by decide +kernel
theorem dX8_mayBeNamed_17 : decode cX8_mayBeNamed 17 = .ok (.invokevirtual 55, 3) := by decide +kernel
theorem dX8_mayBeNamed_20 : decode cX8_mayBeNamed 20 = .ok (.ireturn, 1) := by decide +kernel
theorem dX8_memoryOf_0 : decode cX8_memoryOf 0 = .ok (.aload_n 0, 1) := by decide +kernel
theorem dX8_memoryOf_1 : decode cX8_memoryOf 1 = .ok (.getfield 25, 3) := by decide +kernel
theorem dX8_memoryOf_4 : decode cX8_memoryOf 4 = .ok (.iload_n 1, 1) := by decide +kernel
theorem dX8_memoryOf_5 : decode cX8_memoryOf 5 = .ok (.bipush 8, 2) := by decide +kernel
theorem dX8_memoryOf_7 : decode cX8_memoryOf 7 = .ok (.imul, 1) := by decide +kernel
theorem dX8_memoryOf_8 : decode cX8_memoryOf 8 = .ok (.iload_n 2, 1) := by decide +kernel
theorem dX8_memoryOf_9 : decode cX8_memoryOf 9 = .ok (.iadd, 1) := by decide +kernel
theorem dX8_memoryOf_10 : decode cX8_memoryOf 10 = .ok (.iaload, 1) := by decide +kernel
theorem dX8_memoryOf_11 : decode cX8_memoryOf 11 = .ok (.ireturn, 1) := by decide +kernel
theorem dX8_setMemory_0 : decode cX8_setMemory 0 = .ok (.aload_n 0, 1) := by decide +kernel
theorem dX8_setMemory_1 : decode cX8_setMemory 1 = .ok (.getfield 25, 3) := by decide +kernel
theorem dX8_setMemory_4 : decode cX8_setMemory 4 = .ok (.iload_n 1, 1) := by decide +kernel
theorem dX8_setMemory_5 : decode cX8_setMemory 5 = .ok (.bipush 8, 2) := by decide +kernel
theorem dX8_setMemory_7 : decode cX8_setMemory 7 = .ok (.imul, 1) := by decide +kernel
theorem dX8_setMemory_8 : decode cX8_setMemory 8 = .ok (.iload_n 2, 1) := by decide +kernel
theorem dX8_setMemory_9 : decode cX8_setMemory 9 = .ok (.iadd, 1) := by decide +kernel
theorem dX8_setMemory_10 : decode cX8_setMemory 10 = .ok (.iload_n 3, 1) := by decide +kernel
theorem dX8_setMemory_11 : decode cX8_setMemory 11 = .ok (.iastore, 1) := by decide +kernel
theorem dX8_setMemory_12 : decode cX8_setMemory 12 = .ok (.return_, 1) := by decide +kernel
theorem dX8_addMemory_0 : decode cX8_addMemory 0 = .ok (.iload_n 1, 1) := by decide +kernel
theorem dX8_addMemory_1 : decode cX8_addMemory 1 = .ok (.bipush 8, 2) := by decide +kernel
theorem dX8_addMemory_3 : decode cX8_addMemory 3 = .ok (.imul, 1) := by decide +kernel
theorem dX8_addMemory_4 : decode cX8_addMemory 4 = .ok (.iload_n 2, 1) := by decide +kernel
theorem dX8_addMemory_5 : decode cX8_addMemory 5 = .ok (.iadd, 1) := by decide +kernel
theorem dX8_addMemory_6 : decode cX8_addMemory 6 = .ok (.istore 4, 2) := by decide +kernel
theorem dX8_addMemory_8 : decode cX8_addMemory 8 = .ok (.aload_n 0, 1) := by decide +kernel
theorem dX8_addMemory_9 : decode cX8_addMemory 9 = .ok (.getfield 25, 3) := by decide +kernel
theorem dX8_addMemory_12 : decode cX8_addMemory 12 = .ok (.iload 4, 2) := by decide +kernel
theorem dX8_addMemory_14 : decode cX8_addMemory 14 = .ok (.iaload, 1) := by decide +kernel
theorem dX8_addMemory_15 : decode cX8_addMemory 15 = .ok (.iload_n 3, 1) := by decide +kernel
theorem dX8_addMemory_16 : decode cX8_addMemory 16 = .ok (.iadd, 1) := by decide +kernel
theorem dX8_addMemory_17 : decode cX8_addMemory 17 = .ok (.istore 5, 2) := by decide +kernel
theorem dX8_addMemory_19 : decode cX8_addMemory 19 = .ok (.aload_n 0, 1) := by decide +kernel
theorem dX8_addMemory_20 : decode cX8_addMemory 20 = .ok (.getfield 25, 3) := by decide +kernel
theorem dX8_addMemory_23 : decode cX8_addMemory 23 = .ok (.iload 4, 2) := by decide +kernel
theorem dX8_addMemory_25 : decode cX8_addMemory 25 = .ok (.iload 5, 2) := by decide +kernel
theorem dX8_addMemory_27 : decode cX8_addMemory 27 = .ok (.ifCond .ge 7, 3) := by decide +kernel
theorem dX8_addMemory_30 : decode cX8_addMemory 30 = .ok (.iconst 0, 1) := by decide +kernel
theorem dX8_addMemory_31 : decode cX8_addMemory 31 = .ok (.goto 10, 3) := by decide +kernel
theorem dX8_addMemory_34 : decode cX8_addMemory 34 = .ok (.iload 5, 2) := by decide +kernel
theorem dX8_addMemory_36 : decode cX8_addMemory 36 = .ok (.bipush 99, 2) := by decide +kernel
theorem dX8_addMemory_38 : decode cX8_addMemory 38 = .ok (.invokestatic 60, 3) := by decide +kernel
theorem dX8_addMemory_41 : decode cX8_addMemory 41 = .ok (.iastore, 1) := by decide +kernel
theorem dX8_addMemory_42 : decode cX8_addMemory 42 = .ok (.return_, 1) := by decide +kernel
theorem dX8_comes_0 : decode cX8_comes 0 = .ok (.aload_n 0, 1) := by decide +kernel
theorem dX8_comes_1 : decode cX8_comes 1 = .ok (.getfield 28, 3) := by decide +kernel
theorem dX8_comes_4 : decode cX8_comes 4 = .ok (.istore_n 3, 1) := by decide +kernel
theorem dX8_comes_5 : decode cX8_comes 5 = .ok (.aload_n 0, 1) := by decide +kernel
theorem dX8_comes_6 : decode cX8_comes 6 = .ok (.getfield 9, 3) := by decide +kernel
theorem dX8_comes_9 : decode cX8_comes 9 = .ok (.iload_n 3, 1) := by decide +kernel
theorem dX8_comes_10 : decode cX8_comes 10 = .ok (.iload_n 1, 1) := by decide +kernel
theorem dX8_comes_11 : decode cX8_comes 11 = .ok (.iastore, 1) := by decide +kernel
theorem dX8_comes_12 : decode cX8_comes 12 = .ok (.aload_n 0, 1) := by decide +kernel
theorem dX8_comes_13 : decode cX8_comes 13 = .ok (.getfield 15, 3) := by decide +kernel
theorem dX8_comes_16 : decode cX8_comes 16 = .ok (.iload_n 3, 1) := by decide +kernel
theorem dX8_comes_17 : decode cX8_comes 17 = .ok (.iload_n 2, 1) := by decide +kernel
theorem dX8_comes_18 : decode cX8_comes 18 = .ok (.iastore, 1) := by decide +kernel
theorem dX8_comes_19 : decode cX8_comes 19 = .ok (.aload_n 0, 1) := by decide +kernel
theorem dX8_comes_20 : decode cX8_comes 20 = .ok (.getfield 18, 3) := by decide +kernel
theorem dX8_comes_23 : decode cX8_comes 23 = .ok (.iload_n 3, 1) := by decide +kernel
theorem dX8_comes_24 : decode cX8_comes 24 = .ok (.iconst 0, 1) := by decide +kernel
theorem dX8_comes_25 : decode cX8_comes 25 = .ok (.iastore, 1) := by decide +kernel
theorem dX8_comes_26 : decode cX8_comes 26 = .ok (.aload_n 0, 1) := by decide +kernel
theorem dX8_comes_27 : decode cX8_comes 27 = .ok (.getfield 21, 3) := by decide +kernel
theorem dX8_comes_30 : decode cX8_comes 30 = .ok (.iload_n 3, 1) := by decide +kernel
theorem dX8_comes_31 : decode cX8_comes 31 = .ok (.iconst 1, 1) := by decide +kernel
theorem dX8_comes_32 : decode cX8_comes 32 = .ok (.bastore, 1) := by decide +kernel
theorem dX8_comes_33 : decode cX8_comes 33 = .ok (.iconst 0, 1) := by decide +kernel
theorem dX8_comes_34 : decode cX8_comes 34 = .ok (.istore 4, 2) := by decide +kernel
theorem dX8_comes_36 : decode cX8_comes 36 = .ok (.iload 4, 2) := by decide +kernel
theorem dX8_comes_38 : decode cX8_comes 38 = .ok (.iload_n 3, 1) := by decide +kernel
theorem dX8_comes_39 : decode cX8_comes 39 = .ok (.if_icmp .ge 27, 3) := by decide +kernel
theorem dX8_comes_42 : decode cX8_comes 42 = .ok (.aload_n 0, 1) := by decide +kernel
theorem dX8_comes_43 : decode cX8_comes 43 = .ok (.iload_n 3, 1) := by decide +kernel
theorem dX8_comes_44 : decode cX8_comes 44 = .ok (.iload 4, 2) := by decide +kernel
theorem dX8_comes_46 : decode cX8_comes 46 = .ok (.bipush 50, 2) := by decide +kernel
theorem dX8_comes_48 : decode cX8_comes 48 = .ok (.invokevirtual 66, 3) := by decide +kernel
theorem dX8_comes_51 : decode cX8_comes 51 = .ok (.aload_n 0, 1) := by decide +kernel
theorem dX8_comes_52 : decode cX8_comes 52 = .ok (.iload 4, 2) := by decide +kernel
theorem dX8_comes_54 : decode cX8_comes 54 = .ok (.iload_n 3, 1) := by decide +kernel
theorem dX8_comes_55 : decode cX8_comes 55 = .ok (.bipush 50, 2) := by decide +kernel
theorem dX8_comes_57 : decode cX8_comes 57 = .ok (.invokevirtual 66, 3) := by decide +kernel
theorem dX8_comes_60 : decode cX8_comes 60 = .ok (.iinc 4 1, 3) := by decide +kernel
theorem dX8_comes_63 : decode cX8_comes 63 = .ok (.goto (-27), 3) := by decide +kernel
theorem dX8_comes_66 : decode cX8_comes 66 = .ok (.aload_n 0, 1) := by decide +kernel
theorem dX8_comes_67 : decode cX8_comes 67 = .ok (.dup, 1) := by decide +kernel
theorem dX8_comes_68 : decode cX8_comes 68 = .ok (.getfield 28, 3) := by decide +kernel
theorem dX8_comes_71 : decode cX8_comes 71 = .ok (.iconst 1, 1) := by decide +kernel
theorem dX8_comes_72 : decode cX8_comes 72 = .ok (.iadd, 1) := by decide +kernel
theorem dX8_comes_73 : decode cX8_comes 73 = .ok (.putfield 28, 3) := by decide +kernel
theorem dX8_comes_76 : decode cX8_comes 76 = .ok (.return_, 1) := by decide +kernel
theorem dX8_talk_0 : decode cX8_talk 0 = .ok (.aload_n 0, 1) := by decide +kernel
theorem dX8_talk_1 : decode cX8_talk 1 = .ok (.iload_n 1, 1) := by decide +kernel
theorem dX8_talk_2 : decode cX8_talk 2 = .ok (.iload_n 2, 1) := by decide +kernel
theorem dX8_talk_3 : decode cX8_talk 3 = .ok (.bipush 10, 2) := by decide +kernel
theorem dX8_talk_5 : decode cX8_talk 5 = .ok (.invokevirtual 70, 3) := by decide +kernel
theorem dX8_talk_8 : decode cX8_talk 8 = .ok (.aload_n 0, 1) := by decide +kernel
theorem dX8_talk_9 : decode cX8_talk 9 = .ok (.iload_n 2, 1) := by decide +kernel
theorem dX8_talk_10 : decode cX8_talk 10 = .ok (.iload_n 1, 1) := by decide +kernel
theorem dX8_talk_11 : decode cX8_talk 11 = .ok (.bipush 10, 2) := by decide +kernel
theorem dX8_talk_13 : decode cX8_talk 13 = .ok (.invokevirtual 70, 3) := by decide +kernel
theorem dX8_talk_16 : decode cX8_talk 16 = .ok (.return_, 1) := by decide +kernel
theorem dX8_talkToAll_0 : decode cX8_talkToAll 0 = .ok (.iconst 0, 1) := by decide +kernel
theorem dX8_talkToAll_1 : decode cX8_talkToAll 1 = .ok (.istore_n 2, 1) := by decide +kernel
theorem dX8_talkToAll_2 : decode cX8_talkToAll 2 = .ok (.iload_n 2, 1) := by decide +kernel
theorem dX8_talkToAll_3 : decode cX8_talkToAll 3 = .ok (.aload_n 0, 1) := by decide +kernel
theorem dX8_talkToAll_4 : decode cX8_talkToAll 4 = .ok (.getfield 28, 3) := by decide +kernel
theorem dX8_talkToAll_7 : decode cX8_talkToAll 7 = .ok (.if_icmp .ge 24, 3) := by decide +kernel
theorem dX8_talkToAll_10 : decode cX8_talkToAll 10 = .ok (.aload_n 0, 1) := by decide +kernel
theorem dX8_talkToAll_11 : decode cX8_talkToAll 11 = .ok (.iload_n 1, 1) := by decide +kernel
theorem dX8_talkToAll_12 : decode cX8_talkToAll 12 = .ok (.iload_n 2, 1) := by decide +kernel
theorem dX8_talkToAll_13 : decode cX8_talkToAll 13 = .ok (.invokevirtual 73, 3) := by decide +kernel
theorem dX8_talkToAll_16 : decode cX8_talkToAll 16 = .ok (.ifCond .eq 9, 3) := by decide +kernel
theorem dX8_talkToAll_19 : decode cX8_talkToAll 19 = .ok (.aload_n 0, 1) := by decide +kernel
theorem dX8_talkToAll_20 : decode cX8_talkToAll 20 = .ok (.iload_n 1, 1) := by decide +kernel
theorem dX8_talkToAll_21 : decode cX8_talkToAll 21 = .ok (.iload_n 2, 1) := by decide +kernel
theorem dX8_talkToAll_22 : decode cX8_talkToAll 22 = .ok (.invokevirtual 77, 3) := by decide +kernel
theorem dX8_talkToAll_25 : decode cX8_talkToAll 25 = .ok (.iinc 2 1, 3) := by decide +kernel
theorem dX8_talkToAll_28 : decode cX8_talkToAll 28 = .ok (.goto (-26), 3) := by decide +kernel
theorem dX8_talkToAll_31 : decode cX8_talkToAll 31 = .ok (.return_, 1) := by decide +kernel
theorem dX8_comeBack_0 : decode cX8_comeBack 0 = .ok (.aload_n 0, 1) := by decide +kernel
theorem dX8_comeBack_1 : decode cX8_comeBack 1 = .ok (.getfield 21, 3) := by decide +kernel
theorem dX8_comeBack_4 : decode cX8_comeBack 4 = .ok (.iload_n 1, 1) := by decide +kernel
theorem dX8_comeBack_5 : decode cX8_comeBack 5 = .ok (.iconst 1, 1) := by decide +kernel
theorem dX8_comeBack_6 : decode cX8_comeBack 6 = .ok (.bastore, 1) := by decide +kernel
theorem dX8_comeBack_7 : decode cX8_comeBack 7 = .ok (.aload_n 0, 1) := by decide +kernel
theorem dX8_comeBack_8 : decode cX8_comeBack 8 = .ok (.iload_n 1, 1) := by decide +kernel
theorem dX8_comeBack_9 : decode cX8_comeBack 9 = .ok (.bipush 20, 2) := by decide +kernel
theorem dX8_comeBack_11 : decode cX8_comeBack 11 = .ok (.invokevirtual 81, 3) := by decide +kernel
theorem dX8_comeBack_14 : decode cX8_comeBack 14 = .ok (.return_, 1) := by decide +kernel
theorem dX8_forget_0 : decode cX8_forget 0 = .ok (.aload_n 0, 1) := by decide +kernel
theorem dX8_forget_1 : decode cX8_forget 1 = .ok (.getfield 21, 3) := by decide +kernel
theorem dX8_forget_4 : decode cX8_forget 4 = .ok (.iload_n 1, 1) := by decide +kernel
theorem dX8_forget_5 : decode cX8_forget 5 = .ok (.iconst 0, 1) := by decide +kernel
theorem dX8_forget_6 : decode cX8_forget 6 = .ok (.bastore, 1) := by decide +kernel
theorem dX8_forget_7 : decode cX8_forget 7 = .ok (.aload_n 0, 1) := by decide +kernel
theorem dX8_forget_8 : decode cX8_forget 8 = .ok (.getfield 18, 3) := by decide +kernel
theorem dX8_forget_11 : decode cX8_forget 11 = .ok (.iload_n 1, 1) := by decide +kernel
theorem dX8_forget_12 : decode cX8_forget 12 = .ok (.iconst 0, 1) := by decide +kernel
theorem dX8_forget_13 : decode cX8_forget 13 = .ok (.iastore, 1) := by decide +kernel
theorem dX8_forget_14 : decode cX8_forget 14 = .ok (.aload_n 0, 1) := by decide +kernel
theorem dX8_forget_15 : decode cX8_forget 15 = .ok (.iload_n 1, 1) := by decide +kernel
theorem dX8_forget_16 : decode cX8_forget 16 = .ok (.iconst 0, 1) := by decide +kernel
theorem dX8_forget_17 : decode cX8_forget 17 = .ok (.invokevirtual 81, 3) := by decide +kernel
theorem dX8_forget_20 : decode cX8_forget 20 = .ok (.return_, 1) := by decide +kernel
theorem dX8_rememberAs_0 : decode cX8_rememberAs 0 = .ok (.iconst 0, 1) := by decide +kernel
theorem dX8_rememberAs_1 : decode cX8_rememberAs 1 = .ok (.istore_n 3, 1) := by decide +kernel
theorem dX8_rememberAs_2 : decode cX8_rememberAs 2 = .ok (.iload_n 3, 1) := by decide +kernel
theorem dX8_rememberAs_3 : decode cX8_rememberAs 3 = .ok (.aload_n 0, 1) := by decide +kernel
theorem dX8_rememberAs_4 : decode cX8_rememberAs 4 = .ok (.getfield 28, 3) := by decide +kernel
theorem dX8_rememberAs_7 : decode cX8_rememberAs 7 = .ok (.if_icmp .ge 35, 3) := by decide +kernel
theorem dX8_rememberAs_10 : decode cX8_rememberAs 10 = .ok (.iload_n 3, 1) := by decide +kernel
theorem dX8_rememberAs_11 : decode cX8_rememberAs 11 = .ok (.iload_n 1, 1) := by decide +kernel
theorem dX8_rememberAs_12 : decode cX8_rememberAs 12 = .ok (.if_icmp .eq 24, 3) := by decide +kernel
theorem dX8_rememberAs_15 : decode cX8_rememberAs 15 = .ok (.aload_n 0, 1) := by decide +kernel
theorem dX8_rememberAs_16 : decode cX8_rememberAs 16 = .ok (.getfield 21, 3) := by decide +kernel
theorem dX8_rememberAs_19 : decode cX8_rememberAs 19 = .ok (.iload_n 3, 1) := by decide +kernel
theorem dX8_rememberAs_20 : decode cX8_rememberAs 20 = .ok (.baload, 1) := by decide +kernel
theorem dX8_rememberAs_21 : decode cX8_rememberAs 21 = .ok (.ifCond .eq 15, 3) := by decide +kernel
theorem dX8_rememberAs_24 : decode cX8_rememberAs 24 = .ok (.aload_n 0, 1) := by decide +kernel
theorem dX8_rememberAs_25 : decode cX8_rememberAs 25 = .ok (.getfield 25, 3) := by decide +kernel
theorem dX8_rememberAs_28 : decode cX8_rememberAs 28 = .ok (.iload_n 3, 1) := by decide +kernel
theorem dX8_rememberAs_29 : decode cX8_rememberAs 29 = .ok (.bipush 8, 2) := by decide +kernel
theorem dX8_rememberAs_31 : decode cX8_rememberAs 31 = .ok (.imul, 1) := by decide +kernel
theorem dX8_rememberAs_32 : decode cX8_rememberAs 32 = .ok (.iload_n 1, 1) := by decide +kernel
theorem dX8_rememberAs_33 : decode cX8_rememberAs 33 = .ok (.iadd, 1) := by decide +kernel
theorem dX8_rememberAs_34 : decode cX8_rememberAs 34 = .ok (.iload_n 2, 1) := by decide +kernel
theorem dX8_rememberAs_35 : decode cX8_rememberAs 35 = .ok (.iastore, 1) := by decide +kernel
theorem dX8_rememberAs_36 : decode cX8_rememberAs 36 = .ok (.iinc 3 1, 3) := by decide +kernel
theorem dX8_rememberAs_39 : decode cX8_rememberAs 39 = .ok (.goto (-37), 3) := by decide +kernel
theorem dX8_rememberAs_42 : decode cX8_rememberAs 42 = .ok (.return_, 1) := by decide +kernel
theorem dX8_rememberMore_0 : decode cX8_rememberMore 0 = .ok (.iconst 0, 1) := by decide +kernel
theorem dX8_rememberMore_1 : decode cX8_rememberMore 1 = .ok (.istore_n 3, 1) := by decide +kernel
theorem dX8_rememberMore_2 : decode cX8_rememberMore 2 = .ok (.iload_n 3, 1) := by decide +kernel
theorem dX8_rememberMore_3 : decode cX8_rememberMore 3 = .ok (.aload_n 0, 1) := by decide +kernel
theorem dX8_rememberMore_4 : decode cX8_rememberMore 4 = .ok (.getfield 28, 3) := by decide +kernel
theorem dX8_rememberMore_7 : decode cX8_rememberMore 7 = .ok (.if_icmp .ge 30, 3) := by decide +kernel
theorem dX8_rememberMore_10 : decode cX8_rememberMore 10 = .ok (.iload_n 3, 1) := by decide +kernel
theorem dX8_rememberMore_11 : decode cX8_rememberMore 11 = .ok (.iload_n 1, 1) := by decide +kernel
theorem dX8_rememberMore_12 : decode cX8_rememberMore 12 = .ok (.if_icmp .eq 19, 3) := by decide +kernel
theorem dX8_rememberMore_15 : decode cX8_rememberMore 15 = .ok (.aload_n 0, 1) := by decide +kernel
theorem dX8_rememberMore_16 : decode cX8_rememberMore 16 = .ok (.getfield 21, 3) := by decide +kernel
theorem dX8_rememberMore_19 : decode cX8_rememberMore 19 = .ok (.iload_n 3, 1) := by decide +kernel
theorem dX8_rememberMore_20 : decode cX8_rememberMore 20 = .ok (.baload, 1) := by decide +kernel
theorem dX8_rememberMore_21 : decode cX8_rememberMore 21 = .ok (.ifCond .eq 10, 3) := by decide +kernel
theorem dX8_rememberMore_24 : decode cX8_rememberMore 24 = .ok (.aload_n 0, 1) := by decide +kernel
theorem dX8_rememberMore_25 : decode cX8_rememberMore 25 = .ok (.iload_n 3, 1) := by decide +kernel
theorem dX8_rememberMore_26 : decode cX8_rememberMore 26 = .ok (.iload_n 1, 1) := by decide +kernel
theorem dX8_rememberMore_27 : decode cX8_rememberMore 27 = .ok (.iload_n 2, 1) := by decide +kernel
theorem dX8_rememberMore_28 : decode cX8_rememberMore 28 = .ok (.invokevirtual 70, 3) := by decide +kernel
theorem dX8_rememberMore_31 : decode cX8_rememberMore 31 = .ok (.iinc 3 1, 3) := by decide +kernel
theorem dX8_rememberMore_34 : decode cX8_rememberMore 34 = .ok (.goto (-32), 3) := by decide +kernel
theorem dX8_rememberMore_37 : decode cX8_rememberMore 37 = .ok (.return_, 1) := by decide +kernel
theorem dX8_holdFeast_0 : decode cX8_holdFeast 0 = .ok (.iconst 0, 1) := by decide +kernel
theorem dX8_holdFeast_1 : decode cX8_holdFeast 1 = .ok (.istore_n 1, 1) := by decide +kernel
theorem dX8_holdFeast_2 : decode cX8_holdFeast 2 = .ok (.iload_n 1, 1) := by decide +kernel
theorem dX8_holdFeast_3 : decode cX8_holdFeast 3 = .ok (.aload_n 0, 1) := by decide +kernel
theorem dX8_holdFeast_4 : decode cX8_holdFeast 4 = .ok (.getfield 28, 3) := by decide +kernel
theorem dX8_holdFeast_7 : decode cX8_holdFeast 7 = .ok (.if_icmp .ge 24, 3) := by decide +kernel
theorem dX8_holdFeast_10 : decode cX8_holdFeast 10 = .ok (.aload_n 0, 1) := by decide +kernel
theorem dX8_holdFeast_11 : decode cX8_holdFeast 11 = .ok (.getfield 21, 3) := by decide +kernel
theorem dX8_holdFeast_14 : decode cX8_holdFeast 14 = .ok (.iload_n 1, 1) := by decide +kernel
theorem dX8_holdFeast_15 : decode cX8_holdFeast 15 = .ok (.baload, 1) := by decide +kernel
theorem dX8_holdFeast_16 : decode cX8_holdFeast 16 = .ok (.ifCond .eq 9, 3) := by decide +kernel
theorem dX8_holdFeast_19 : decode cX8_holdFeast 19 = .ok (.aload_n 0, 1) := by decide +kernel
theorem dX8_holdFeast_20 : decode cX8_holdFeast 20 = .ok (.iload_n 1, 1) := by decide +kernel
theorem dX8_holdFeast_21 : decode cX8_holdFeast 21 = .ok (.iconst 2, 1) := by decide +kernel
theorem dX8_holdFeast_22 : decode cX8_holdFeast 22 = .ok (.invokevirtual 84, 3) := by decide +kernel
theorem dX8_holdFeast_25 : decode cX8_holdFeast 25 = .ok (.iinc 1 1, 3) := by decide +kernel
theorem dX8_holdFeast_28 : decode cX8_holdFeast 28 = .ok (.goto (-26), 3) := by decide +kernel
theorem dX8_holdFeast_31 : decode cX8_holdFeast 31 = .ok (.return_, 1) := by decide +kernel
theorem dX8_forgetOthers_0 : decode cX8_forgetOthers 0 = .ok (.iconst 0, 1) := by decide +kernel
theorem dX8_forgetOthers_1 : decode cX8_forgetOthers 1 = .ok (.istore_n 2, 1) := by decide +kernel
theorem dX8_forgetOthers_2 : decode cX8_forgetOthers 2 = .ok (.iload_n 2, 1) := by decide +kernel
theorem dX8_forgetOthers_3 : decode cX8_forgetOthers 3 = .ok (.aload_n 0, 1) := by decide +kernel
theorem dX8_forgetOthers_4 : decode cX8_forgetOthers 4 = .ok (.getfield 28, 3) := by decide +kernel
theorem dX8_forgetOthers_7 : decode cX8_forgetOthers 7 = .ok (.if_icmp .ge 16, 3) := by decide +kernel
theorem dX8_forgetOthers_10 : decode cX8_forgetOthers 10 = .ok (.aload_n 0, 1) := by decide +kernel
theorem dX8_forgetOthers_11 : decode cX8_forgetOthers 11 = .ok (.iload_n 1, 1) := by decide +kernel
theorem dX8_forgetOthers_12 : decode cX8_forgetOthers 12 = .ok (.iload_n 2, 1) := by decide +kernel
theorem dX8_forgetOthers_13 : decode cX8_forgetOthers 13 = .ok (.iconst 0, 1) := by decide +kernel
theorem dX8_forgetOthers_14 : decode cX8_forgetOthers 14 = .ok (.invokevirtual 66, 3) := by decide +kernel
theorem dX8_forgetOthers_17 : decode cX8_forgetOthers 17 = .ok (.iinc 2 1, 3) := by decide +kernel
theorem dX8_forgetOthers_20 : decode cX8_forgetOthers 20 = .ok (.goto (-18), 3) := by decide +kernel
theorem dX8_forgetOthers_23 : decode cX8_forgetOthers 23 = .ok (.return_, 1) := by decide +kernel
theorem dX8_passWeeks_0 : decode cX8_passWeeks 0 = .ok (.iconst 0, 1) := by decide +kernel
theorem dX8_passWeeks_1 : decode cX8_passWeeks 1 = .ok (.istore_n 2, 1) := by decide +kernel
theorem dX8_passWeeks_2 : decode cX8_passWeeks 2 = .ok (.iload_n 2, 1) := by decide +kernel
theorem dX8_passWeeks_3 : decode cX8_passWeeks 3 = .ok (.iload_n 1, 1) := by decide +kernel
theorem dX8_passWeeks_4 : decode cX8_passWeeks 4 = .ok (.if_icmp .ge 13, 3) := by decide +kernel
theorem dX8_passWeeks_7 : decode cX8_passWeeks 7 = .ok (.aload_n 0, 1) := by decide +kernel
theorem dX8_passWeeks_8 : decode cX8_passWeeks 8 = .ok (.invokevirtual 87, 3) := by decide +kernel
theorem dX8_passWeeks_11 : decode cX8_passWeeks 11 = .ok (.iinc 2 1, 3) := by decide +kernel
theorem dX8_passWeeks_14 : decode cX8_passWeeks 14 = .ok (.goto (-12), 3) := by decide +kernel
theorem dX8_passWeeks_17 : decode cX8_passWeeks 17 = .ok (.return_, 1) := by decide +kernel
theorem dX8_passWeek_0 : decode cX8_passWeek 0 = .ok (.aload_n 0, 1) := by decide +kernel
theorem dX8_passWeek_1 : decode cX8_passWeek 1 = .ok (.dup, 1) := by decide +kernel
theorem dX8_passWeek_2 : decode cX8_passWeek 2 = .ok (.getfield 35, 3) := by decide +kernel
theorem dX8_passWeek_5 : decode cX8_passWeek 5 = .ok (.iconst 1, 1) := by decide +kernel
theorem dX8_passWeek_6 : decode cX8_passWeek 6 = .ok (.iadd, 1) := by decide +kernel
theorem dX8_passWeek_7 : decode cX8_passWeek 7 = .ok (.putfield 35, 3) := by decide +kernel
theorem dX8_passWeek_10 : decode cX8_passWeek 10 = .ok (.iconst 0, 1) := by decide +kernel
theorem dX8_passWeek_11 : decode cX8_passWeek 11 = .ok (.istore_n 1, 1) := by decide +kernel
theorem dX8_passWeek_12 : decode cX8_passWeek 12 = .ok (.iload_n 1, 1) := by decide +kernel
theorem dX8_passWeek_13 : decode cX8_passWeek 13 = .ok (.aload_n 0, 1) := by decide +kernel
theorem dX8_passWeek_14 : decode cX8_passWeek 14 = .ok (.getfield 28, 3) := by decide +kernel
theorem dX8_passWeek_17 : decode cX8_passWeek 17 = .ok (.if_icmp .ge 63, 3) := by decide +kernel
theorem dX8_passWeek_20 : decode cX8_passWeek 20 = .ok (.aload_n 0, 1) := by decide +kernel
theorem dX8_passWeek_21 : decode cX8_passWeek 21 = .ok (.getfield 21, 3) := by decide +kernel
theorem dX8_passWeek_24 : decode cX8_passWeek 24 = .ok (.iload_n 1, 1) := by decide +kernel
theorem dX8_passWeek_25 : decode cX8_passWeek 25 = .ok (.baload, 1) := by decide +kernel
theorem dX8_passWeek_26 : decode cX8_passWeek 26 = .ok (.ifCond .eq 36, 3) := by decide +kernel
theorem dX8_passWeek_29 : decode cX8_passWeek 29 = .ok (.aload_n 0, 1) := by decide +kernel
theorem dX8_passWeek_30 : decode cX8_passWeek 30 = .ok (.getfield 38, 3) := by decide +kernel
theorem dX8_passWeek_33 : decode cX8_passWeek 33 = .ok (.aload_n 0, 1) := by decide +kernel
theorem dX8_passWeek_34 : decode cX8_passWeek 34 = .ok (.getfield 9, 3) := by decide +kernel
theorem dX8_passWeek_37 : decode cX8_passWeek 37 = .ok (.iload_n 1, 1) := by decide +kernel
theorem dX8_passWeek_38 : decode cX8_passWeek 38 = .ok (.iaload, 1) := by decide +kernel
theorem dX8_passWeek_39 : decode cX8_passWeek 39 = .ok (.aaload, 1) := by decide +kernel
theorem dX8_passWeek_40 : decode cX8_passWeek 40 = .ok (.aload_n 0, 1) := by decide +kernel
theorem dX8_passWeek_41 : decode cX8_passWeek 41 = .ok (.getfield 35, 3) := by decide +kernel
theorem dX8_passWeek_44 : decode cX8_passWeek 44 = .ok (.aload_n 0, 1) := by decide +kernel
theorem dX8_passWeek_45 : decode cX8_passWeek 45 = .ok (.getfield 18, 3) := by decide +kernel
theorem dX8_passWeek_48 : decode cX8_passWeek 48 = .ok (.iload_n 1, 1) := by decide +kernel
theorem dX8_passWeek_49 : decode cX8_passWeek 49 = .ok (.iaload, 1) := by decide +kernel
theorem dX8_passWeek_50 : decode cX8_passWeek 50 = .ok (.aload_n 0, 1) := by decide +kernel
theorem dX8_passWeek_51 : decode cX8_passWeek 51 = .ok (.getfield 15, 3) := by decide +kernel
theorem dX8_passWeek_54 : decode cX8_passWeek 54 = .ok (.iload_n 1, 1) := by decide +kernel
theorem dX8_passWeek_55 : decode cX8_passWeek 55 = .ok (.iaload, 1) := by decide +kernel
theorem dX8_passWeek_56 : decode cX8_passWeek 56 = .ok (.invokevirtual 90, 3) := by decide +kernel
theorem dX8_passWeek_59 : decode cX8_passWeek 59 = .ok (.goto 4, 3) := by decide +kernel
theorem dX8_passWeek_62 : decode cX8_passWeek 62 = .ok (.iconst 0, 1) := by decide +kernel
theorem dX8_passWeek_63 : decode cX8_passWeek 63 = .ok (.istore_n 2, 1) := by decide +kernel
theorem dX8_passWeek_64 : decode cX8_passWeek 64 = .ok (.iload_n 2, 1) := by decide +kernel
theorem dX8_passWeek_65 : decode cX8_passWeek 65 = .ok (.ifCond .eq 9, 3) := by decide +kernel
theorem dX8_passWeek_68 : decode cX8_passWeek 68 = .ok (.aload_n 0, 1) := by decide +kernel
theorem dX8_passWeek_69 : decode cX8_passWeek 69 = .ok (.iload_n 1, 1) := by decide +kernel
theorem dX8_passWeek_70 : decode cX8_passWeek 70 = .ok (.iload_n 2, 1) := by decide +kernel
theorem dX8_passWeek_71 : decode cX8_passWeek 71 = .ok (.invokevirtual 84, 3) := by decide +kernel
theorem dX8_passWeek_74 : decode cX8_passWeek 74 = .ok (.iinc 1 1, 3) := by decide +kernel
theorem dX8_passWeek_77 : decode cX8_passWeek 77 = .ok (.goto (-65), 3) := by decide +kernel
theorem dX8_passWeek_80 : decode cX8_passWeek 80 = .ok (.aload_n 0, 1) := by decide +kernel
theorem dX8_passWeek_81 : decode cX8_passWeek 81 = .ok (.getfield 35, 3) := by decide +kernel
theorem dX8_passWeek_84 : decode cX8_passWeek 84 = .ok (.bipush 10, 2) := by decide +kernel
theorem dX8_passWeek_86 : decode cX8_passWeek 86 = .ok (.irem, 1) := by decide +kernel
theorem dX8_passWeek_87 : decode cX8_passWeek 87 = .ok (.ifCond .ne 7, 3) := by decide +kernel
theorem dX8_passWeek_90 : decode cX8_passWeek 90 = .ok (.aload_n 0, 1) := by decide +kernel
theorem dX8_passWeek_91 : decode cX8_passWeek 91 = .ok (.invokevirtual 94, 3) := by decide +kernel
theorem dX8_passWeek_94 : decode cX8_passWeek 94 = .ok (.return_, 1) := by decide +kernel
theorem dX8_passSpring_0 : decode cX8_passSpring 0 = .ok (.iconst 0, 1) := by decide +kernel
theorem dX8_passSpring_1 : decode cX8_passSpring 1 = .ok (.istore_n 1, 1) := by decide +kernel
theorem dX8_passSpring_2 : decode cX8_passSpring 2 = .ok (.iload_n 1, 1) := by decide +kernel
theorem dX8_passSpring_3 : decode cX8_passSpring 3 = .ok (.aload_n 0, 1) := by decide +kernel
theorem dX8_passSpring_4 : decode cX8_passSpring 4 = .ok (.getfield 32, 3) := by decide +kernel
theorem dX8_passSpring_7 : decode cX8_passSpring 7 = .ok (.if_icmp .ge 25, 3) := by decide +kernel
theorem dX8_passSpring_10 : decode cX8_passSpring 10 = .ok (.aload_n 0, 1) := by decide +kernel
theorem dX8_passSpring_11 : decode cX8_passSpring 11 = .ok (.invokevirtual 97, 3) := by decide +kernel
theorem dX8_passSpring_14 : decode cX8_passSpring 14 = .ok (.istore_n 2, 1) := by decide +kernel
theorem dX8_passSpring_15 : decode cX8_passSpring 15 = .ok (.iload_n 2, 1) := by decide +kernel
theorem dX8_passSpring_16 : decode cX8_passSpring 16 = .ok (.bipush (-9), 2) := by decide +kernel
theorem dX8_passSpring_18 : decode cX8_passSpring 18 = .ok (.if_icmp .eq 8, 3) := by decide +kernel
theorem dX8_passSpring_21 : decode cX8_passSpring 21 = .ok (.aload_n 0, 1) := by decide +kernel
theorem dX8_passSpring_22 : decode cX8_passSpring 22 = .ok (.iload_n 2, 1) := by decide +kernel
theorem dX8_passSpring_23 : decode cX8_passSpring 23 = .ok (.invokevirtual 101, 3) := by decide +kernel
theorem dX8_passSpring_26 : decode cX8_passSpring 26 = .ok (.iinc 1 1, 3) := by decide +kernel
theorem dX8_passSpring_29 : decode cX8_passSpring 29 = .ok (.goto (-27), 3) := by decide +kernel
theorem dX8_passSpring_32 : decode cX8_passSpring 32 = .ok (.return_, 1) := by decide +kernel
theorem dX8_knownOf_0 : decode cX8_knownOf 0 = .ok (.iconst 0, 1) := by decide +kernel
theorem dX8_knownOf_1 : decode cX8_knownOf 1 = .ok (.istore_n 2, 1) := by decide +kernel
theorem dX8_knownOf_2 : decode cX8_knownOf 2 = .ok (.iconst 0, 1) := by decide +kernel
theorem dX8_knownOf_3 : decode cX8_knownOf 3 = .ok (.istore_n 3, 1) := by decide +kernel
theorem dX8_knownOf_4 : decode cX8_knownOf 4 = .ok (.iload_n 3, 1) := by decide +kernel
theorem dX8_knownOf_5 : decode cX8_knownOf 5 = .ok (.aload_n 0, 1) := by decide +kernel
theorem dX8_knownOf_6 : decode cX8_knownOf 6 = .ok (.getfield 28, 3) := by decide +kernel
theorem dX8_knownOf_9 : decode cX8_knownOf 9 = .ok (.if_icmp .ge 37, 3) := by decide +kernel
theorem dX8_knownOf_12 : decode cX8_knownOf 12 = .ok (.iload_n 3, 1) := by decide +kernel
theorem dX8_knownOf_13 : decode cX8_knownOf 13 = .ok (.iload_n 1, 1) := by decide +kernel
theorem dX8_knownOf_14 : decode cX8_knownOf 14 = .ok (.if_icmp .eq 26, 3) := by decide +kernel
theorem dX8_knownOf_17 : decode cX8_knownOf 17 = .ok (.aload_n 0, 1) := by decide +kernel
theorem dX8_knownOf_18 : decode cX8_knownOf 18 = .ok (.getfield 21, 3) := by decide +kernel
theorem dX8_knownOf_21 : decode cX8_knownOf 21 = .ok (.iload_n 3, 1) := by decide +kernel
theorem dX8_knownOf_22 : decode cX8_knownOf 22 = .ok (.baload, 1) := by decide +kernel
theorem dX8_knownOf_23 : decode cX8_knownOf 23 = .ok (.ifCond .eq 17, 3) := by decide +kernel
theorem dX8_knownOf_26 : decode cX8_knownOf 26 = .ok (.iload_n 2, 1) := by decide +kernel
theorem dX8_knownOf_27 : decode cX8_knownOf 27 = .ok (.aload_n 0, 1) := by decide +kernel
theorem dX8_knownOf_28 : decode cX8_knownOf 28 = .ok (.getfield 25, 3) := by decide +kernel
theorem dX8_knownOf_31 : decode cX8_knownOf 31 = .ok (.iload_n 3, 1) := by decide +kernel
theorem dX8_knownOf_32 : decode cX8_knownOf 32 = .ok (.bipush 8, 2) := by decide +kernel
theorem dX8_knownOf_34 : decode cX8_knownOf 34 = .ok (.imul, 1) := by decide +kernel
theorem dX8_knownOf_35 : decode cX8_knownOf 35 = .ok (.iload_n 1, 1) := by decide +kernel
theorem dX8_knownOf_36 : decode cX8_knownOf 36 = .ok (.iadd, 1) := by decide +kernel
theorem dX8_knownOf_37 : decode cX8_knownOf 37 = .ok (.iaload, 1) := by decide +kernel
theorem dX8_knownOf_38 : decode cX8_knownOf 38 = .ok (.iadd, 1) := by decide +kernel
theorem dX8_knownOf_39 : decode cX8_knownOf 39 = .ok (.istore_n 2, 1) := by decide +kernel
theorem dX8_knownOf_40 : decode cX8_knownOf 40 = .ok (.iinc 3 1, 3) := by decide +kernel
theorem dX8_knownOf_43 : decode cX8_knownOf 43 = .ok (.goto (-39), 3) := by decide +kernel
theorem dX8_knownOf_46 : decode cX8_knownOf 46 = .ok (.iload_n 2, 1) := by decide +kernel
theorem dX8_knownOf_47 : decode cX8_knownOf 47 = .ok (.ireturn, 1) := by decide +kernel
theorem dX8_leastKnown_0 : decode cX8_leastKnown 0 = .ok (.bipush (-9), 2) := by decide +kernel
theorem dX8_leastKnown_2 : decode cX8_leastKnown 2 = .ok (.istore_n 1, 1) := by decide +kernel
theorem dX8_leastKnown_3 : decode cX8_leastKnown 3 = .ok (.iconst 0, 1) := by decide +kernel
theorem dX8_leastKnown_4 : decode cX8_leastKnown 4 = .ok (.istore_n 2, 1) := by decide +kernel
theorem dX8_leastKnown_5 : decode cX8_leastKnown 5 = .ok (.iconst 0, 1) := by decide +kernel
theorem dX8_leastKnown_6 : decode cX8_leastKnown 6 = .ok (.istore_n 3, 1) := by decide +kernel
theorem dX8_leastKnown_7 : decode cX8_leastKnown 7 = .ok (.iload_n 3, 1) := by decide +kernel
theorem dX8_leastKnown_8 : decode cX8_leastKnown 8 = .ok (.aload_n 0, 1) := by decide +kernel
theorem dX8_leastKnown_9 : decode cX8_leastKnown 9 = .ok (.getfield 28, 3) := by decide +kernel
theorem dX8_leastKnown_12 : decode cX8_leastKnown 12 = .ok (.if_icmp .ge 65, 3) := by decide +kernel
theorem dX8_leastKnown_15 : decode cX8_leastKnown 15 = .ok (.aload_n 0, 1) := by decide +kernel
theorem dX8_leastKnown_16 : decode cX8_leastKnown 16 = .ok (.getfield 21, 3) := by decide +kernel
theorem dX8_leastKnown_19 : decode cX8_leastKnown 19 = .ok (.iload_n 3, 1) := by decide +kernel
theorem dX8_leastKnown_20 : decode cX8_leastKnown 20 = .ok (.baload, 1) := by decide +kernel
theorem dX8_leastKnown_21 : decode cX8_leastKnown 21 = .ok (.ifCond .eq 50, 3) := by decide +kernel
theorem dX8_leastKnown_24 : decode cX8_leastKnown 24 = .ok (.aload_n 0, 1) := by decide +kernel
theorem dX8_leastKnown_25 : decode cX8_leastKnown 25 = .ok (.getfield 38, 3) := by decide +kernel
theorem dX8_leastKnown_28 : decode cX8_leastKnown 28 = .ok (.aload_n 0, 1) := by decide +kernel
theorem dX8_leastKnown_29 : decode cX8_leastKnown 29 = .ok (.getfield 9, 3) := by decide +kernel
theorem dX8_leastKnown_32 : decode cX8_leastKnown 32 = .ok (.iload_n 3, 1) := by decide +kernel
theorem dX8_leastKnown_33 : decode cX8_leastKnown 33 = .ok (.iaload, 1) := by decide +kernel
theorem dX8_leastKnown_34 : decode cX8_leastKnown 34 = .ok (.aaload, 1) := by decide +kernel
theorem dX8_leastKnown_35 : decode cX8_leastKnown 35 = .ok (.aload_n 0, 1) := by decide +kernel
theorem dX8_leastKnown_36 : decode cX8_leastKnown 36 = .ok (.getfield 15, 3) := by decide +kernel
theorem dX8_leastKnown_39 : decode cX8_leastKnown 39 = .ok (.iload_n 3, 1) := by decide +kernel
theorem dX8_leastKnown_40 : decode cX8_leastKnown 40 = .ok (.iaload, 1) := by decide +kernel
theorem dX8_leastKnown_41 : decode cX8_leastKnown 41 = .ok (.invokevirtual 55, 3) := by decide +kernel
theorem dX8_leastKnown_44 : decode cX8_leastKnown 44 = .ok (.ifCond .eq 27, 3) := by decide +kernel
theorem dX8_leastKnown_47 : decode cX8_leastKnown 47 = .ok (.aload_n 0, 1) := by decide +kernel
theorem dX8_leastKnown_48 : decode cX8_leastKnown 48 = .ok (.iload_n 3, 1) := by decide +kernel
theorem dX8_leastKnown_49 : decode cX8_leastKnown 49 = .ok (.invokevirtual 105, 3) := by decide +kernel
theorem dX8_leastKnown_52 : decode cX8_leastKnown 52 = .ok (.istore 4, 2) := by decide +kernel
theorem dX8_leastKnown_54 : decode cX8_leastKnown 54 = .ok (.iload_n 1, 1) := by decide +kernel
theorem dX8_leastKnown_55 : decode cX8_leastKnown 55 = .ok (.bipush (-9), 2) := by decide +kernel
theorem dX8_leastKnown_57 : decode cX8_leastKnown 57 = .ok (.if_icmp .eq 9, 3) := by decide +kernel
theorem dX8_leastKnown_60 : decode cX8_leastKnown 60 = .ok (.iload 4, 2) := by decide +kernel
theorem dX8_leastKnown_62 : decode cX8_leastKnown 62 = .ok (.iload_n 2, 1) := by decide +kernel
theorem dX8_leastKnown_63 : decode cX8_leastKnown 63 = .ok (.if_icmp .ge 8, 3) := by decide +kernel
theorem dX8_leastKnown_66 : decode cX8_leastKnown 66 = .ok (.iload_n 3, 1) := by decide +kernel
theorem dX8_leastKnown_67 : decode cX8_leastKnown 67 = .ok (.istore_n 1, 1) := by decide +kernel
theorem dX8_leastKnown_68 : decode cX8_leastKnown 68 = .ok (.iload 4, 2) := by decide +kernel
theorem dX8_leastKnown_70 : decode cX8_leastKnown 70 = .ok (.istore_n 2, 1) := by decide +kernel
theorem dX8_leastKnown_71 : decode cX8_leastKnown 71 = .ok (.iinc 3 1, 3) := by decide +kernel
theorem dX8_leastKnown_74 : decode cX8_leastKnown 74 = .ok (.goto (-67), 3) := by decide +kernel
theorem dX8_leastKnown_77 : decode cX8_leastKnown 77 = .ok (.iload_n 1, 1) := by decide +kernel
theorem dX8_leastKnown_78 : decode cX8_leastKnown 78 = .ok (.ireturn, 1) := by decide +kernel
theorem dX8_bestKnown_0 : decode cX8_bestKnown 0 = .ok (.bipush (-9), 2) := by decide +kernel
theorem dX8_bestKnown_2 : decode cX8_bestKnown 2 = .ok (.istore_n 1, 1) := by decide +kernel
theorem dX8_bestKnown_3 : decode cX8_bestKnown 3 = .ok (.iconst (-1), 1) := by decide +kernel
theorem dX8_bestKnown_4 : decode cX8_bestKnown 4 = .ok (.istore_n 2, 1) := by decide +kernel
theorem dX8_bestKnown_5 : decode cX8_bestKnown 5 = .ok (.iconst 0, 1) := by decide +kernel
theorem dX8_bestKnown_6 : decode cX8_bestKnown 6 = .ok (.istore_n 3, 1) := by decide +kernel
theorem dX8_bestKnown_7 : decode cX8_bestKnown 7 = .ok (.iload_n 3, 1) := by decide +kernel
theorem dX8_bestKnown_8 : decode cX8_bestKnown 8 = .ok (.aload_n 0, 1) := by decide +kernel
theorem dX8_bestKnown_9 : decode cX8_bestKnown 9 = .ok (.getfield 28, 3) := by decide +kernel
theorem dX8_bestKnown_12 : decode cX8_bestKnown 12 = .ok (.if_icmp .ge 35, 3) := by decide +kernel
theorem dX8_bestKnown_15 : decode cX8_bestKnown 15 = .ok (.aload_n 0, 1) := by decide +kernel
theorem dX8_bestKnown_16 : decode cX8_bestKnown 16 = .ok (.getfield 21, 3) := by decide +kernel
theorem dX8_bestKnown_19 : decode cX8_bestKnown 19 = .ok (.iload_n 3, 1) := by decide +kernel
theorem dX8_bestKnown_20 : decode cX8_bestKnown 20 = .ok (.baload, 1) := by decide +kernel
theorem dX8_bestKnown_21 : decode cX8_bestKnown 21 = .ok (.ifCond .eq 20, 3) := by decide +kernel
theorem dX8_bestKnown_24 : decode cX8_bestKnown 24 = .ok (.aload_n 0, 1) := by decide +kernel
theorem dX8_bestKnown_25 : decode cX8_bestKnown 25 = .ok (.iload_n 3, 1) := by decide +kernel
theorem dX8_bestKnown_26 : decode cX8_bestKnown 26 = .ok (.invokevirtual 105, 3) := by decide +kernel
theorem dX8_bestKnown_29 : decode cX8_bestKnown 29 = .ok (.iload_n 2, 1) := by decide +kernel
theorem dX8_bestKnown_30 : decode cX8_bestKnown 30 = .ok (.if_icmp .le 11, 3) := by decide +kernel
theorem dX8_bestKnown_33 : decode cX8_bestKnown 33 = .ok (.iload_n 3, 1) := by decide +kernel
theorem dX8_bestKnown_34 : decode cX8_bestKnown 34 = .ok (.istore_n 1, 1) := by decide +kernel
theorem dX8_bestKnown_35 : decode cX8_bestKnown 35 = .ok (.aload_n 0, 1) := by decide +kernel
theorem dX8_bestKnown_36 : decode cX8_bestKnown 36 = .ok (.iload_n 3, 1) := by decide +kernel
theorem dX8_bestKnown_37 : decode cX8_bestKnown 37 = .ok (.invokevirtual 105, 3) := by decide +kernel
theorem dX8_bestKnown_40 : decode cX8_bestKnown 40 = .ok (.istore_n 2, 1) := by decide +kernel
theorem dX8_bestKnown_41 : decode cX8_bestKnown 41 = .ok (.iinc 3 1, 3) := by decide +kernel
theorem dX8_bestKnown_44 : decode cX8_bestKnown 44 = .ok (.goto (-37), 3) := by decide +kernel
theorem dX8_bestKnown_47 : decode cX8_bestKnown 47 = .ok (.iload_n 1, 1) := by decide +kernel
theorem dX8_bestKnown_48 : decode cX8_bestKnown 48 = .ok (.ireturn, 1) := by decide +kernel
theorem dX8_hereBits_0 : decode cX8_hereBits 0 = .ok (.iconst 0, 1) := by decide +kernel
theorem dX8_hereBits_1 : decode cX8_hereBits 1 = .ok (.istore_n 1, 1) := by decide +kernel
theorem dX8_hereBits_2 : decode cX8_hereBits 2 = .ok (.iconst 0, 1) := by decide +kernel
theorem dX8_hereBits_3 : decode cX8_hereBits 3 = .ok (.istore_n 2, 1) := by decide +kernel
theorem dX8_hereBits_4 : decode cX8_hereBits 4 = .ok (.iload_n 2, 1) := by decide +kernel
theorem dX8_hereBits_5 : decode cX8_hereBits 5 = .ok (.aload_n 0, 1) := by decide +kernel
theorem dX8_hereBits_6 : decode cX8_hereBits 6 = .ok (.getfield 28, 3) := by decide +kernel
theorem dX8_hereBits_9 : decode cX8_hereBits 9 = .ok (.if_icmp .ge 28, 3) := by decide +kernel
theorem dX8_hereBits_12 : decode cX8_hereBits 12 = .ok (.iload_n 1, 1) := by decide +kernel
theorem dX8_hereBits_13 : decode cX8_hereBits 13 = .ok (.aload_n 0, 1) := by decide +kernel
theorem dX8_hereBits_14 : decode cX8_hereBits 14 = .ok (.getfield 21, 3) := by decide +kernel
theorem dX8_hereBits_17 : decode cX8_hereBits 17 = .ok (.iload_n 2, 1) := by decide +kernel
theorem dX8_hereBits_18 : decode cX8_hereBits 18 = .ok (.baload, 1) := by decide +kernel
theorem dX8_hereBits_19 : decode cX8_hereBits 19 = .ok (.ifCond .eq 9, 3) := by decide +kernel
theorem dX8_hereBits_22 : decode cX8_hereBits 22 = .ok (.iconst 1, 1) := by decide +kernel
theorem dX8_hereBits_23 : decode cX8_hereBits 23 = .ok (.iload_n 2, 1) := by decide +kernel
theorem dX8_hereBits_24 : decode cX8_hereBits 24 = .ok (.ishl, 1) := by decide +kernel
theorem dX8_hereBits_25 : decode cX8_hereBits 25 = .ok (.goto 4, 3) := by decide +kernel
