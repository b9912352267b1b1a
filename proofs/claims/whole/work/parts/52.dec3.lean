theorem dX11_speaksIn_21 : decode cX11_speaksIn 21 = .ok (.iload_n 2, 1) := by decide +kernel
theorem dX11_speaksIn_22 : decode cX11_speaksIn 22 = .ok (.iload_n 1, 1) := by decide +kernel
theorem dX11_speaksIn_23 : decode cX11_speaksIn 23 = .ok (.invokestatic 56, 3) := by decide +kernel
theorem dX11_speaksIn_26 : decode cX11_speaksIn 26 = .ok (.aload_n 0, 1) := by decide +kernel
theorem dX11_speaksIn_27 : decode cX11_speaksIn 27 = .ok (.iload_n 2, 1) := by decide +kernel
theorem dX11_speaksIn_28 : decode cX11_speaksIn 28 = .ok (.iload_n 1, 1) := by decide +kernel
theorem dX11_speaksIn_29 : decode cX11_speaksIn 29 = .ok (.invokestatic 56, 3) := by decide +kernel
theorem dX11_speaksIn_32 : decode cX11_speaksIn 32 = .ok (.iaload, 1) := by decide +kernel
theorem dX11_speaksIn_33 : decode cX11_speaksIn 33 = .ok (.bipush 10, 2) := by decide +kernel
theorem dX11_speaksIn_35 : decode cX11_speaksIn 35 = .ok (.iadd, 1) := by decide +kernel
theorem dX11_speaksIn_36 : decode cX11_speaksIn 36 = .ok (.invokestatic 69, 3) := by decide +kernel
theorem dX11_speaksIn_39 : decode cX11_speaksIn 39 = .ok (.iastore, 1) := by decide +kernel
theorem dX11_speaksIn_40 : decode cX11_speaksIn 40 = .ok (.return_, 1) := by decide +kernel
theorem dX11_comesBack_0 : decode cX11_comesBack 0 = .ok (.iconst 0, 1) := by decide +kernel
theorem dX11_comesBack_1 : decode cX11_comesBack 1 = .ok (.istore_n 2, 1) := by decide +kernel
theorem dX11_comesBack_2 : decode cX11_comesBack 2 = .ok (.iload_n 2, 1) := by decide +kernel
theorem dX11_comesBack_3 : decode cX11_comesBack 3 = .ok (.aload_n 0, 1) := by decide +kernel
theorem dX11_comesBack_4 : decode cX11_comesBack 4 = .ok (.iconst 0, 1) := by decide +kernel
theorem dX11_comesBack_5 : decode cX11_comesBack 5 = .ok (.iaload, 1) := by decide +kernel
theorem dX11_comesBack_6 : decode cX11_comesBack 6 = .ok (.if_icmp .ge 26, 3) := by decide +kernel
theorem dX11_comesBack_9 : decode cX11_comesBack 9 = .ok (.aload_n 0, 1) := by decide +kernel
theorem dX11_comesBack_10 : decode cX11_comesBack 10 = .ok (.iload_n 2, 1) := by decide +kernel
theorem dX11_comesBack_11 : decode cX11_comesBack 11 = .ok (.invokestatic 52, 3) := by decide +kernel
theorem dX11_comesBack_14 : decode cX11_comesBack 14 = .ok (.ifCond .eq 12, 3) := by decide +kernel
theorem dX11_comesBack_17 : decode cX11_comesBack 17 = .ok (.aload_n 0, 1) := by decide +kernel
theorem dX11_comesBack_18 : decode cX11_comesBack 18 = .ok (.iload_n 2, 1) := by decide +kernel
theorem dX11_comesBack_19 : decode cX11_comesBack 19 = .ok (.iload_n 1, 1) := by decide +kernel
theorem dX11_comesBack_20 : decode cX11_comesBack 20 = .ok (.invokestatic 56, 3) := by decide +kernel
theorem dX11_comesBack_23 : decode cX11_comesBack 23 = .ok (.bipush 20, 2) := by decide +kernel
theorem dX11_comesBack_25 : decode cX11_comesBack 25 = .ok (.iastore, 1) := by decide +kernel
theorem dX11_comesBack_26 : decode cX11_comesBack 26 = .ok (.iinc 2 1, 3) := by decide +kernel
theorem dX11_comesBack_29 : decode cX11_comesBack 29 = .ok (.goto (-27), 3) := by decide +kernel
theorem dX11_comesBack_32 : decode cX11_comesBack 32 = .ok (.aload_n 0, 1) := by decide +kernel
theorem dX11_comesBack_33 : decode cX11_comesBack 33 = .ok (.iload_n 1, 1) := by decide +kernel
theorem dX11_comesBack_34 : decode cX11_comesBack 34 = .ok (.iconst 2, 1) := by decide +kernel
theorem dX11_comesBack_35 : decode cX11_comesBack 35 = .ok (.invokestatic 48, 3) := by decide +kernel
theorem dX11_comesBack_38 : decode cX11_comesBack 38 = .ok (.iconst 1, 1) := by decide +kernel
theorem dX11_comesBack_39 : decode cX11_comesBack 39 = .ok (.iastore, 1) := by decide +kernel
theorem dX11_comesBack_40 : decode cX11_comesBack 40 = .ok (.return_, 1) := by decide +kernel
theorem dX11_letter_0 : decode cX11_letter 0 = .ok (.iload_n 1, 1) := by decide +kernel
theorem dX11_letter_1 : decode cX11_letter 1 = .ok (.ifCond .ge 10, 3) := by decide +kernel
theorem dX11_letter_4 : decode cX11_letter 4 = .ok (.aload_n 0, 1) := by decide +kernel
theorem dX11_letter_5 : decode cX11_letter 5 = .ok (.bipush (-4), 2) := by decide +kernel
theorem dX11_letter_7 : decode cX11_letter 7 = .ok (.invokevirtual 36, 3) := by decide +kernel
theorem dX11_letter_10 : decode cX11_letter 10 = .ok (.ireturn, 1) := by decide +kernel
theorem dX11_letter_11 : decode cX11_letter 11 = .ok (.iload_n 1, 1) := by decide +kernel
theorem dX11_letter_12 : decode cX11_letter 12 = .ok (.sipush 255, 3) := by decide +kernel
theorem dX11_letter_15 : decode cX11_letter 15 = .ok (.if_icmp .gt 12, 3) := by decide +kernel
theorem dX11_letter_18 : decode cX11_letter 18 = .ok (.aload_n 0, 1) := by decide +kernel
theorem dX11_letter_19 : decode cX11_letter 19 = .ok (.getfield 84, 3) := by decide +kernel
theorem dX11_letter_22 : decode cX11_letter 22 = .ok (.bipush 96, 2) := by decide +kernel
theorem dX11_letter_24 : decode cX11_letter 24 = .ok (.if_icmp .ne 10, 3) := by decide +kernel
theorem dX11_letter_27 : decode cX11_letter 27 = .ok (.aload_n 0, 1) := by decide +kernel
theorem dX11_letter_28 : decode cX11_letter 28 = .ok (.bipush (-6), 2) := by decide +kernel
theorem dX11_letter_30 : decode cX11_letter 30 = .ok (.invokevirtual 36, 3) := by decide +kernel
theorem dX11_letter_33 : decode cX11_letter 33 = .ok (.ireturn, 1) := by decide +kernel
theorem dX11_letter_34 : decode cX11_letter 34 = .ok (.aload_n 0, 1) := by decide +kernel
theorem dX11_letter_35 : decode cX11_letter 35 = .ok (.getfield 22, 3) := by decide +kernel
theorem dX11_letter_38 : decode cX11_letter 38 = .ok (.aload_n 0, 1) := by decide +kernel
theorem dX11_letter_39 : decode cX11_letter 39 = .ok (.getfield 84, 3) := by decide +kernel
theorem dX11_letter_42 : decode cX11_letter 42 = .ok (.iload_n 1, 1) := by decide +kernel
theorem dX11_letter_43 : decode cX11_letter 43 = .ok (.iastore, 1) := by decide +kernel
theorem dX11_letter_44 : decode cX11_letter 44 = .ok (.aload_n 0, 1) := by decide +kernel
theorem dX11_letter_45 : decode cX11_letter 45 = .ok (.dup, 1) := by decide +kernel
theorem dX11_letter_46 : decode cX11_letter 46 = .ok (.getfield 84, 3) := by decide +kernel
theorem dX11_letter_49 : decode cX11_letter 49 = .ok (.iconst 1, 1) := by decide +kernel
theorem dX11_letter_50 : decode cX11_letter 50 = .ok (.iadd, 1) := by decide +kernel
theorem dX11_letter_51 : decode cX11_letter 51 = .ok (.putfield 84, 3) := by decide +kernel
theorem dX11_letter_54 : decode cX11_letter 54 = .ok (.aload_n 0, 1) := by decide +kernel
theorem dX11_letter_55 : decode cX11_letter 55 = .ok (.getfield 84, 3) := by decide +kernel
theorem dX11_letter_58 : decode cX11_letter 58 = .ok (.ireturn, 1) := by decide +kernel
theorem dX11_here_0 : decode cX11_here 0 = .ok (.aload_n 0, 1) := by decide +kernel
theorem dX11_here_1 : decode cX11_here 1 = .ok (.getfield 88, 3) := by decide +kernel
theorem dX11_here_4 : decode cX11_here 4 = .ok (.aload_n 0, 1) := by decide +kernel
theorem dX11_here_5 : decode cX11_here 5 = .ok (.getfield 84, 3) := by decide +kernel
theorem dX11_here_8 : decode cX11_here 8 = .ok (.if_icmp .ge 15, 3) := by decide +kernel
theorem dX11_here_11 : decode cX11_here 11 = .ok (.aload_n 0, 1) := by decide +kernel
theorem dX11_here_12 : decode cX11_here 12 = .ok (.getfield 22, 3) := by decide +kernel
theorem dX11_here_15 : decode cX11_here 15 = .ok (.aload_n 0, 1) := by decide +kernel
theorem dX11_here_16 : decode cX11_here 16 = .ok (.getfield 88, 3) := by decide +kernel
theorem dX11_here_19 : decode cX11_here 19 = .ok (.iaload, 1) := by decide +kernel
theorem dX11_here_20 : decode cX11_here 20 = .ok (.goto 4, 3) := by decide +kernel
theorem dX11_here_23 : decode cX11_here 23 = .ok (.iconst (-1), 1) := by decide +kernel
theorem dX11_here_24 : decode cX11_here 24 = .ok (.ireturn, 1) := by decide +kernel
theorem dX11_readsNumber_0 : decode cX11_readsNumber 0 = .ok (.aload_n 0, 1) := by decide +kernel
theorem dX11_readsNumber_1 : decode cX11_readsNumber 1 = .ok (.getfield 31, 3) := by decide +kernel
theorem dX11_readsNumber_4 : decode cX11_readsNumber 4 = .ok (.iload_n 1, 1) := by decide +kernel
theorem dX11_readsNumber_5 : decode cX11_readsNumber 5 = .ok (.iconst 0, 1) := by decide +kernel
theorem dX11_readsNumber_6 : decode cX11_readsNumber 6 = .ok (.iastore, 1) := by decide +kernel
theorem dX11_readsNumber_7 : decode cX11_readsNumber 7 = .ok (.iconst 0, 1) := by decide +kernel
theorem dX11_readsNumber_8 : decode cX11_readsNumber 8 = .ok (.istore_n 3, 1) := by decide +kernel
theorem dX11_readsNumber_9 : decode cX11_readsNumber 9 = .ok (.iload_n 3, 1) := by decide +kernel
theorem dX11_readsNumber_10 : decode cX11_readsNumber 10 = .ok (.iload_n 2, 1) := by decide +kernel
theorem dX11_readsNumber_11 : decode cX11_readsNumber 11 = .ok (.if_icmp .ge 58, 3) := by decide +kernel
theorem dX11_readsNumber_14 : decode cX11_readsNumber 14 = .ok (.aload_n 0, 1) := by decide +kernel
theorem dX11_readsNumber_15 : decode cX11_readsNumber 15 = .ok (.invokevirtual 91, 3) := by decide +kernel
theorem dX11_readsNumber_18 : decode cX11_readsNumber 18 = .ok (.bipush 48, 2) := by decide +kernel
theorem dX11_readsNumber_20 : decode cX11_readsNumber 20 = .ok (.bipush 57, 2) := by decide +kernel
theorem dX11_readsNumber_22 : decode cX11_readsNumber 22 = .ok (.invokestatic 40, 3) := by decide +kernel
theorem dX11_readsNumber_25 : decode cX11_readsNumber 25 = .ok (.ifCond .ne 5, 3) := by decide +kernel
theorem dX11_readsNumber_28 : decode cX11_readsNumber 28 = .ok (.iconst 0, 1) := by decide +kernel
theorem dX11_readsNumber_29 : decode cX11_readsNumber 29 = .ok (.ireturn, 1) := by decide +kernel
theorem dX11_readsNumber_30 : decode cX11_readsNumber 30 = .ok (.aload_n 0, 1) := by decide +kernel
theorem dX11_readsNumber_31 : decode cX11_readsNumber 31 = .ok (.getfield 31, 3) := by decide +kernel
theorem dX11_readsNumber_34 : decode cX11_readsNumber 34 = .ok (.iload_n 1, 1) := by decide +kernel
theorem dX11_readsNumber_35 : decode cX11_readsNumber 35 = .ok (.bipush 10, 2) := by decide +kernel
theorem dX11_readsNumber_37 : decode cX11_readsNumber 37 = .ok (.aload_n 0, 1) := by decide +kernel
theorem dX11_readsNumber_38 : decode cX11_readsNumber 38 = .ok (.getfield 31, 3) := by decide +kernel
theorem dX11_readsNumber_41 : decode cX11_readsNumber 41 = .ok (.iload_n 1, 1) := by decide +kernel
theorem dX11_readsNumber_42 : decode cX11_readsNumber 42 = .ok (.iaload, 1) := by decide +kernel
theorem dX11_readsNumber_43 : decode cX11_readsNumber 43 = .ok (.imul, 1) := by decide +kernel
theorem dX11_readsNumber_44 : decode cX11_readsNumber 44 = .ok (.aload_n 0, 1) := by decide +kernel
theorem dX11_readsNumber_45 : decode cX11_readsNumber 45 = .ok (.invokevirtual 91, 3) := by decide +kernel
theorem dX11_readsNumber_48 : decode cX11_readsNumber 48 = .ok (.iadd, 1) := by decide +kernel
theorem dX11_readsNumber_49 : decode cX11_readsNumber 49 = .ok (.bipush 48, 2) := by decide +kernel
theorem dX11_readsNumber_51 : decode cX11_readsNumber 51 = .ok (.isub, 1) := by decide +kernel
theorem dX11_readsNumber_52 : decode cX11_readsNumber 52 = .ok (.iastore, 1) := by decide +kernel
theorem dX11_readsNumber_53 : decode cX11_readsNumber 53 = .ok (.aload_n 0, 1) := by decide +kernel
theorem dX11_readsNumber_54 : decode cX11_readsNumber 54 = .ok (.dup, 1) := by decide +kernel
theorem dX11_readsNumber_55 : decode cX11_readsNumber 55 = .ok (.getfield 88, 3) := by decide +kernel
theorem dX11_readsNumber_58 : decode cX11_readsNumber 58 = .ok (.iconst 1, 1) := by decide +kernel
theorem dX11_readsNumber_59 : decode cX11_readsNumber 59 = .ok (.iadd, 1) := by decide +kernel
theorem dX11_readsNumber_60 : decode cX11_readsNumber 60 = .ok (.putfield 88, 3) := by decide +kernel
theorem dX11_readsNumber_63 : decode cX11_readsNumber 63 = .ok (.iinc 3 1, 3) := by decide +kernel
theorem dX11_readsNumber_66 : decode cX11_readsNumber 66 = .ok (.goto (-57), 3) := by decide +kernel
theorem dX11_readsNumber_69 : decode cX11_readsNumber 69 = .ok (.iconst 1, 1) := by decide +kernel
theorem dX11_readsNumber_70 : decode cX11_readsNumber 70 = .ok (.ireturn, 1) := by decide +kernel
theorem dX11_kindBy_0 : decode cX11_kindBy 0 = .ok (.iload_n 0, 1) := by decide +kernel
theorem dX11_kindBy_1 : decode cX11_kindBy 1 = .ok (.lookupswitch 71 #[(100, 61), (107, 63), (112, 59), (113, 65), (119, 69), (120, 67)], 59) := by decide +kernel
theorem dX11_kindBy_60 : decode cX11_kindBy 60 = .ok (.iconst 0, 1) := by decide +kernel
theorem dX11_kindBy_61 : decode cX11_kindBy 61 = .ok (.ireturn, 1) := by decide +kernel
theorem dX11_kindBy_62 : decode cX11_kindBy 62 = .ok (.iconst 1, 1) := by decide +kernel
theorem dX11_kindBy_63 : decode cX11_kindBy 63 = .ok (.ireturn, 1) := by decide +kernel
theorem dX11_kindBy_64 : decode cX11_kindBy 64 = .ok (.iconst 2, 1) := by decide +kernel
theorem dX11_kindBy_65 : decode cX11_kindBy 65 = .ok (.ireturn, 1) := by decide +kernel
theorem dX11_kindBy_66 : decode cX11_kindBy 66 = .ok (.iconst 3, 1) := by decide +kernel
theorem dX11_kindBy_67 : decode cX11_kindBy 67 = .ok (.ireturn, 1) := by decide +kernel
theorem dX11_kindBy_68 : decode cX11_kindBy 68 = .ok (.iconst 4, 1) := by decide +kernel
theorem dX11_kindBy_69 : decode cX11_kindBy 69 = .ok (.ireturn, 1) := by decide +kernel
theorem dX11_kindBy_70 : decode cX11_kindBy 70 = .ok (.iconst 5, 1) := by decide +kernel
theorem dX11_kindBy_71 : decode cX11_kindBy 71 = .ok (.ireturn, 1) := by decide +kernel
theorem dX11_kindBy_72 : decode cX11_kindBy 72 = .ok (.bipush (-9), 2) := by decide +kernel
theorem dX11_kindBy_74 : decode cX11_kindBy 74 = .ok (.ireturn, 1) := by decide +kernel
theorem dX11_readsKind_0 : decode cX11_readsKind 0 = .ok (.aload_n 0, 1) := by decide +kernel
theorem dX11_readsKind_1 : decode cX11_readsKind 1 = .ok (.getfield 31, 3) := by decide +kernel
theorem dX11_readsKind_4 : decode cX11_readsKind 4 = .ok (.iconst 0, 1) := by decide +kernel
theorem dX11_readsKind_5 : decode cX11_readsKind 5 = .ok (.aload_n 0, 1) := by decide +kernel
theorem dX11_readsKind_6 : decode cX11_readsKind 6 = .ok (.invokevirtual 91, 3) := by decide +kernel
theorem dX11_readsKind_9 : decode cX11_readsKind 9 = .ok (.invokestatic 95, 3) := by decide +kernel
theorem dX11_readsKind_12 : decode cX11_readsKind 12 = .ok (.iastore, 1) := by decide +kernel
theorem dX11_readsKind_13 : decode cX11_readsKind 13 = .ok (.aload_n 0, 1) := by decide +kernel
theorem dX11_readsKind_14 : decode cX11_readsKind 14 = .ok (.dup, 1) := by decide +kernel
theorem dX11_readsKind_15 : decode cX11_readsKind 15 = .ok (.getfield 88, 3) := by decide +kernel
theorem dX11_readsKind_18 : decode cX11_readsKind 18 = .ok (.aload_n 0, 1) := by decide +kernel
theorem dX11_readsKind_19 : decode cX11_readsKind 19 = .ok (.getfield 31, 3) := by decide +kernel
theorem dX11_readsKind_22 : decode cX11_readsKind 22 = .ok (.iconst 0, 1) := by decide +kernel
theorem dX11_readsKind_23 : decode cX11_readsKind 23 = .ok (.iaload, 1) := by decide +kernel
theorem dX11_readsKind_24 : decode cX11_readsKind 24 = .ok (.ifCond .ge 7, 3) := by decide +kernel
theorem dX11_readsKind_27 : decode cX11_readsKind 27 = .ok (.iconst 0, 1) := by decide +kernel
theorem dX11_readsKind_28 : decode cX11_readsKind 28 = .ok (.goto 4, 3) := by decide +kernel
theorem dX11_readsKind_31 : decode cX11_readsKind 31 = .ok (.iconst 1, 1) := by decide +kernel
theorem dX11_readsKind_32 : decode cX11_readsKind 32 = .ok (.iadd, 1) := by decide +kernel
theorem dX11_readsKind_33 : decode cX11_readsKind 33 = .ok (.putfield 88, 3) := by decide +kernel
theorem dX11_readsKind_36 : decode cX11_readsKind 36 = .ok (.aload_n 0, 1) := by decide +kernel
theorem dX11_readsKind_37 : decode cX11_readsKind 37 = .ok (.getfield 31, 3) := by decide +kernel
theorem dX11_readsKind_40 : decode cX11_readsKind 40 = .ok (.iconst 0, 1) := by decide +kernel
theorem dX11_readsKind_41 : decode cX11_readsKind 41 = .ok (.iaload, 1) := by decide +kernel
theorem dX11_readsKind_42 : decode cX11_readsKind 42 = .ok (.ifCond .lt 7, 3) := by decide +kernel
theorem dX11_readsKind_45 : decode cX11_readsKind 45 = .ok (.iconst 1, 1) := by decide +kernel
theorem dX11_readsKind_46 : decode cX11_readsKind 46 = .ok (.goto 4, 3) := by decide +kernel
theorem dX11_readsKind_49 : decode cX11_readsKind 49 = .ok (.iconst 0, 1) := by decide +kernel
theorem dX11_readsKind_50 : decode cX11_readsKind 50 = .ok (.ireturn, 1) := by decide +kernel
theorem dX11_readsStatement_0 : decode cX11_readsStatement 0 = .ok (.aload_n 0, 1) := by decide +kernel
theorem dX11_readsStatement_1 : decode cX11_readsStatement 1 = .ok (.invokevirtual 91, 3) := by decide +kernel
theorem dX11_readsStatement_4 : decode cX11_readsStatement 4 = .ok (.istore_n 1, 1) := by decide +kernel
theorem dX11_readsStatement_5 : decode cX11_readsStatement 5 = .ok (.aload_n 0, 1) := by decide +kernel
theorem dX11_readsStatement_6 : decode cX11_readsStatement 6 = .ok (.dup, 1) := by decide +kernel
theorem dX11_readsStatement_7 : decode cX11_readsStatement 7 = .ok (.getfield 88, 3) := by decide +kernel
theorem dX11_readsStatement_10 : decode cX11_readsStatement 10 = .ok (.iconst 1, 1) := by decide +kernel
theorem dX11_readsStatement_11 : decode cX11_readsStatement 11 = .ok (.iadd, 1) := by decide +kernel
theorem dX11_readsStatement_12 : decode cX11_readsStatement 12 = .ok (.putfield 88, 3) := by decide +kernel
theorem dX11_readsStatement_15 : decode cX11_readsStatement 15 = .ok (.iload_n 1, 1) := by decide +kernel
theorem dX11_readsStatement_16 : decode cX11_readsStatement 16 = .ok (.tableswitch 239 98 119 #[219, 239, 239, 239, 239, 239, 239, 239, 239, 239, 239, 239, 219, 165, 104, 239, 129, 192, 239, 239, 239, 229], 104) := by decide +kernel
theorem dX11_readsStatement_120 : decode cX11_readsStatement 120 = .ok (.aload_n 0, 1) := by decide +kernel
theorem dX11_readsStatement_121 : decode cX11_readsStatement 121 = .ok (.invokevirtual 98, 3) := by decide +kernel
theorem dX11_readsStatement_124 : decode cX11_readsStatement 124 = .ok (.ifCond .eq 16, 3) := by decide +kernel
theorem dX11_readsStatement_127 : decode cX11_readsStatement 127 = .ok (.aload_n 0, 1) := by decide +kernel
theorem dX11_readsStatement_128 : decode cX11_readsStatement 128 = .ok (.iconst 1, 1) := by decide +kernel
theorem dX11_readsStatement_129 : decode cX11_readsStatement 129 = .ok (.iconst 1, 1) := by decide +kernel
theorem dX11_readsStatement_130 : decode cX11_readsStatement 130 = .ok (.invokevirtual 102, 3) := by decide +kernel
theorem dX11_readsStatement_133 : decode cX11_readsStatement 133 = .ok (.ifCond .eq 7, 3) := by decide +kernel
theorem dX11_readsStatement_136 : decode cX11_readsStatement 136 = .ok (.iconst 1, 1) := by decide +kernel
theorem dX11_readsStatement_137 : decode cX11_readsStatement 137 = .ok (.goto 4, 3) := by decide +kernel
theorem dX11_readsStatement_140 : decode cX11_readsStatement 140 = .ok (.iconst 0, 1) := by decide +kernel
theorem dX11_readsStatement_141 : decode cX11_readsStatement 141 = .ok (.istore_n 2, 1) := by decide +kernel
theorem dX11_readsStatement_142 : decode cX11_readsStatement 142 = .ok (.goto 125, 3) := by decide +kernel
theorem dX11_readsStatement_145 : decode cX11_readsStatement 145 = .ok (.aload_n 0, 1) := by decide +kernel
theorem dX11_readsStatement_146 : decode cX11_readsStatement 146 = .ok (.iconst 0, 1) := by decide +kernel
theorem dX11_readsStatement_147 : decode cX11_readsStatement 147 = .ok (.iconst 1, 1) := by decide +kernel
theorem dX11_readsStatement_148 : decode cX11_readsStatement 148 = .ok (.invokevirtual 102, 3) := by decide +kernel
theorem dX11_readsStatement_151 : decode cX11_readsStatement 151 = .ok (.ifCond .eq 25, 3) := by decide +kernel
theorem dX11_readsStatement_154 : decode cX11_readsStatement 154 = .ok (.aload_n 0, 1) := by decide +kernel
theorem dX11_readsStatement_155 : decode cX11_readsStatement 155 = .ok (.iconst 1, 1) := by decide +kernel
theorem dX11_readsStatement_156 : decode cX11_readsStatement 156 = .ok (.iconst 1, 1) := by decide +kernel
theorem dX11_readsStatement_157 : decode cX11_readsStatement 157 = .ok (.invokevirtual 102, 3) := by decide +kernel
theorem dX11_readsStatement_160 : decode cX11_readsStatement 160 = .ok (.ifCond .eq 16, 3) := by decide +kernel
theorem dX11_readsStatement_163 : decode cX11_readsStatement 163 = .ok (.aload_n 0, 1) := by decide +kernel
theorem dX11_readsStatement_164 : decode cX11_readsStatement 164 = .ok (.iconst 2, 1) := by decide +kernel
theorem dX11_readsStatement_165 : decode cX11_readsStatement 165 = .ok (.iconst 2, 1) := by decide +kernel
theorem dX11_readsStatement_166 : decode cX11_readsStatement 166 = .ok (.invokevirtual 102, 3) := by decide +kernel
theorem dX11_readsStatement_169 : decode cX11_readsStatement 169 = .ok (.ifCond .eq 7, 3) := by decide +kernel
theorem dX11_readsStatement_172 : decode cX11_readsStatement 172 = .ok (.iconst 1, 1) := by decide +kernel
theorem dX11_readsStatement_173 : decode cX11_readsStatement 173 = .ok (.goto 4, 3) := by decide +kernel
theorem dX11_readsStatement_176 : decode cX11_readsStatement 176 = .ok (.iconst 0, 1) := by decide +kernel
theorem dX11_readsStatement_177 : decode cX11_readsStatement 177 = .ok (.istore_n 2, 1) := by decide +kernel
theorem dX11_readsStatement_178 : decode cX11_readsStatement 178 = .ok (.goto 89, 3) := by decide +kernel
theorem dX11_readsStatement_181 : decode cX11_readsStatement 181 = .ok (.aload_n 0, 1) := by decide +kernel
theorem dX11_readsStatement_182 : decode cX11_readsStatement 182 = .ok (.iconst 0, 1) := by decide +kernel
theorem dX11_readsStatement_183 : decode cX11_readsStatement 183 = .ok (.iconst 1, 1) := by decide +kernel
theorem dX11_readsStatement_184 : decode cX11_readsStatement 184 = .ok (.invokevirtual 102, 3) := by decide +kernel
theorem dX11_readsStatement_187 : decode cX11_readsStatement 187 = .ok (.ifCond .eq 16, 3) := by decide +kernel
theorem dX11_readsStatement_190 : decode cX11_readsStatement 190 = .ok (.aload_n 0, 1) := by decide +kernel
theorem dX11_readsStatement_191 : decode cX11_readsStatement 191 = .ok (.iconst 1, 1) := by decide +kernel
theorem dX11_readsStatement_192 : decode cX11_readsStatement 192 = .ok (.iconst 2, 1) := by decide +kernel
theorem dX11_readsStatement_193 : decode cX11_readsStatement 193 = .ok (.invokevirtual 102, 3) := by decide +kernel
theorem dX11_readsStatement_196 : decode cX11_readsStatement 196 = .ok (.ifCond .eq 7, 3) := by decide +kernel
theorem dX11_readsStatement_199 : decode cX11_readsStatement 199 = .ok (.iconst 1, 1) := by decide +kernel
theorem dX11_readsStatement_200 : decode cX11_readsStatement 200 = .ok (.goto 4, 3) := by decide +kernel
theorem dX11_readsStatement_203 : decode cX11_readsStatement 203 = .ok (.iconst 0, 1) := by decide +kernel
theorem dX11_readsStatement_204 : decode cX11_readsStatement 204 = .ok (.istore_n 2, 1) := by decide +kernel
theorem dX11_readsStatement_205 : decode cX11_readsStatement 205 = .ok (.goto 62, 3) := by decide +kernel
theorem dX11_readsStatement_208 : decode cX11_readsStatement 208 = .ok (.aload_n 0, 1) := by decide +kernel
theorem dX11_readsStatement_209 : decode cX11_readsStatement 209 = .ok (.iconst 0, 1) := by decide +kernel
theorem dX11_readsStatement_210 : decode cX11_readsStatement 210 = .ok (.iconst 1, 1) := by decide +kernel
theorem dX11_readsStatement_211 : decode cX11_readsStatement 211 = .ok (.invokevirtual 102, 3) := by decide +kernel
theorem dX11_readsStatement_214 : decode cX11_readsStatement 214 = .ok (.ifCond .eq 16, 3) := by decide +kernel
theorem dX11_readsStatement_217 : decode cX11_readsStatement 217 = .ok (.aload_n 0, 1) := by decide +kernel
theorem dX11_readsStatement_218 : decode cX11_readsStatement 218 = .ok (.iconst 1, 1) := by decide +kernel
theorem dX11_readsStatement_219 : decode cX11_readsStatement 219 = .ok (.iconst 1, 1) := by decide +kernel
theorem dX11_readsStatement_220 : decode cX11_readsStatement 220 = .ok (.invokevirtual 102, 3) := by decide +kernel
theorem dX11_readsStatement_223 : decode cX11_readsStatement 223 = .ok (.ifCond .eq 7, 3) := by decide +kernel
theorem dX11_readsStatement_226 : decode cX11_readsStatement 226 = .ok (.iconst 1, 1) := by decide +kernel
theorem dX11_readsStatement_227 : decode cX11_readsStatement 227 = .ok (.goto 4, 3) := by decide +kernel
theorem dX11_readsStatement_230 : decode cX11_readsStatement 230 = .ok (.iconst 0, 1) := by decide +kernel
theorem dX11_readsStatement_231 : decode cX11_readsStatement 231 = .ok (.istore_n 2, 1) := by decide +kernel
theorem dX11_readsStatement_232 : decode cX11_readsStatement 232 = .ok (.goto 35, 3) := by decide +kernel
theorem dX11_readsStatement_235 : decode cX11_readsStatement 235 = .ok (.aload_n 0, 1) := by decide +kernel
theorem dX11_readsStatement_236 : decode cX11_readsStatement 236 = .ok (.iconst 0, 1) := by decide +kernel
theorem dX11_readsStatement_237 : decode cX11_readsStatement 237 = .ok (.iconst 1, 1) := by decide +kernel
theorem dX11_readsStatement_238 : decode cX11_readsStatement 238 = .ok (.invokevirtual 102, 3) := by decide +kernel
theorem dX11_readsStatement_241 : decode cX11_readsStatement 241 = .ok (.istore_n 2, 1) := by decide +kernel
theorem dX11_readsStatement_242 : decode cX11_readsStatement 242 = .ok (.goto 25, 3) := by decide +kernel
theorem dX11_readsStatement_245 : decode cX11_readsStatement 245 = .ok (.aload_n 0, 1) := by decide +kernel
theorem dX11_readsStatement_246 : decode cX11_readsStatement 246 = .ok (.iconst 0, 1) := by decide +kernel
theorem dX11_readsStatement_247 : decode cX11_readsStatement 247 = .ok (.iconst 2, 1) := by decide +kernel
theorem dX11_readsStatement_248 : decode cX11_readsStatement 248 = .ok (.invokevirtual 102, 3) := by decide +kernel
theorem dX11_readsStatement_251 : decode cX11_readsStatement 251 = .ok (.istore_n 2, 1) := by decide +kernel
theorem dX11_readsStatement_252 : decode cX11_readsStatement 252 = .ok (.goto 15, 3) := by decide +kernel
theorem dX11_readsStatement_255 : decode cX11_readsStatement 255 = .ok (.aload_n 0, 1) := by decide +kernel
theorem dX11_readsStatement_256 : decode cX11_readsStatement 256 = .ok (.dup, 1) := by decide +kernel
theorem dX11_readsStatement_257 : decode cX11_readsStatement 257 = .ok (.getfield 88, 3) := by decide +kernel
theorem dX11_readsStatement_260 : decode cX11_readsStatement 260 = .ok (.iconst 1, 1) := by decide +kernel
theorem dX11_readsStatement_261 : decode cX11_readsStatement 261 = .ok (.isub, 1) := by decide +kernel
theorem dX11_readsStatement_262 : decode cX11_readsStatement 262 = .ok (.putfield 88, 3) := by decide +kernel
theorem dX11_readsStatement_265 : decode cX11_readsStatement 265 = .ok (.iconst 0, 1) := by decide +kernel
theorem dX11_readsStatement_266 : decode cX11_readsStatement 266 = .ok (.ireturn, 1) := by decide +kernel
theorem dX11_readsStatement_267 : decode cX11_readsStatement 267 = .ok (.iload_n 2, 1) := by decide +kernel
theorem dX11_readsStatement_268 : decode cX11_readsStatement 268 = .ok (.ifCond .eq 12, 3) := by decide +kernel
theorem dX11_readsStatement_271 : decode cX11_readsStatement 271 = .ok (.aload_n 0, 1) := by decide +kernel
theorem dX11_readsStatement_272 : decode cX11_readsStatement 272 = .ok (.invokevirtual 91, 3) := by decide +kernel
theorem dX11_readsStatement_275 : decode cX11_readsStatement 275 = .ok (.bipush 59, 2) := by decide +kernel
theorem dX11_readsStatement_277 : decode cX11_readsStatement 277 = .ok (.if_icmp .eq 5, 3) := by decide +kernel
theorem dX11_readsStatement_280 : decode cX11_readsStatement 280 = .ok (.iconst 0, 1) := by decide +kernel
theorem dX11_readsStatement_281 : decode cX11_readsStatement 281 = .ok (.ireturn, 1) := by decide +kernel
theorem dX11_readsStatement_282 : decode cX11_readsStatement 282 = .ok (.aload_n 0, 1) := by decide +kernel
theorem dX11_readsStatement_283 : decode cX11_readsStatement 283 = .ok (.dup, 1) := by decide +kernel
theorem dX11_readsStatement_284 : decode cX11_readsStatement 284 = .ok (.getfield 88, 3) := by decide +kernel
theorem dX11_readsStatement_287 : decode cX11_readsStatement 287 = .ok (.iconst 1, 1) := by decide +kernel
theorem dX11_readsStatement_288 : decode cX11_readsStatement 288 = .ok (.iadd, 1) := by decide +kernel
theorem dX11_readsStatement_289 : decode cX11_readsStatement 289 = .ok (.putfield 88, 3) := by decide +kernel
theorem dX11_readsStatement_292 : decode cX11_readsStatement 292 = .ok (.iconst 1, 1) := by decide +kernel
theorem dX11_readsStatement_293 : decode cX11_readsStatement 293 = .ok (.ireturn, 1) := by decide +kernel
theorem dX11_adds_0 : decode cX11_adds 0 = .ok (.aload_n 0, 1) := by decide +kernel
theorem dX11_adds_1 : decode cX11_adds 1 = .ok (.getfield 9, 3) := by decide +kernel
theorem dX11_adds_4 : decode cX11_adds 4 = .ok (.iconst 0, 1) := by decide +kernel
theorem dX11_adds_5 : decode cX11_adds 5 = .ok (.iaload, 1) := by decide +kernel
theorem dX11_adds_6 : decode cX11_adds 6 = .ok (.bipush 8, 2) := by decide +kernel
theorem dX11_adds_8 : decode cX11_adds 8 = .ok (.if_icmp .ne 5, 3) := by decide +kernel
theorem dX11_adds_11 : decode cX11_adds 11 = .ok (.iconst 0, 1) := by decide +kernel
theorem dX11_adds_12 : decode cX11_adds 12 = .ok (.ireturn, 1) := by decide +kernel
theorem dX11_adds_13 : decode cX11_adds 13 = .ok (.aload_n 0, 1) := by decide +kernel
theorem dX11_adds_14 : decode cX11_adds 14 = .ok (.getfield 9, 3) := by decide +kernel
theorem dX11_adds_17 : decode cX11_adds 17 = .ok (.iconst 0, 1) := by decide +kernel
theorem dX11_adds_18 : decode cX11_adds 18 = .ok (.iaload, 1) := by decide +kernel
theorem dX11_adds_19 : decode cX11_adds 19 = .ok (.istore_n 3, 1) := by decide +kernel
theorem dX11_adds_20 : decode cX11_adds 20 = .ok (.aload_n 0, 1) := by decide +kernel
theorem dX11_adds_21 : decode cX11_adds 21 = .ok (.getfield 9, 3) := by decide +kernel
theorem dX11_adds_24 : decode cX11_adds 24 = .ok (.iload_n 3, 1) := by decide +kernel
theorem dX11_adds_25 : decode cX11_adds 25 = .ok (.iconst 0, 1) := by decide +kernel
theorem dX11_adds_26 : decode cX11_adds 26 = .ok (.invokestatic 48, 3) := by decide +kernel
theorem dX11_adds_29 : decode cX11_adds 29 = .ok (.iload_n 1, 1) := by decide +kernel
theorem dX11_adds_30 : decode cX11_adds 30 = .ok (.iastore, 1) := by decide +kernel
theorem dX11_adds_31 : decode cX11_adds 31 = .ok (.aload_n 0, 1) := by decide +kernel
theorem dX11_adds_32 : decode cX11_adds 32 = .ok (.getfield 9, 3) := by decide +kernel
theorem dX11_adds_35 : decode cX11_adds 35 = .ok (.iload_n 3, 1) := by decide +kernel
theorem dX11_adds_36 : decode cX11_adds 36 = .ok (.iconst 1, 1) := by decide +kernel
theorem dX11_adds_37 : decode cX11_adds 37 = .ok (.invokestatic 48, 3) := by decide +kernel
theorem dX11_adds_40 : decode cX11_adds 40 = .ok (.iload_n 2, 1) := by decide +kernel
theorem dX11_adds_41 : decode cX11_adds 41 = .ok (.iastore, 1) := by decide +kernel
theorem dX11_adds_42 : decode cX11_adds 42 = .ok (.aload_n 0, 1) := by decide +kernel
theorem dX11_adds_43 : decode cX11_adds 43 = .ok (.getfield 9, 3) := by decide +kernel
theorem dX11_adds_46 : decode cX11_adds 46 = .ok (.iload_n 3, 1) := by decide +kernel
theorem dX11_adds_47 : decode cX11_adds 47 = .ok (.iconst 2, 1) := by decide +kernel
theorem dX11_adds_48 : decode cX11_adds 48 = .ok (.invokestatic 48, 3) := by decide +kernel
theorem dX11_adds_51 : decode cX11_adds 51 = .ok (.iconst 1, 1) := by decide +kernel
theorem dX11_adds_52 : decode cX11_adds 52 = .ok (.iastore, 1) := by decide +kernel
theorem dX11_adds_53 : decode cX11_adds 53 = .ok (.aload_n 0, 1) := by decide +kernel
theorem dX11_adds_54 : decode cX11_adds 54 = .ok (.getfield 9, 3) := by decide +kernel
theorem dX11_adds_57 : decode cX11_adds 57 = .ok (.iload_n 3, 1) := by decide +kernel
theorem dX11_adds_58 : decode cX11_adds 58 = .ok (.iconst 3, 1) := by decide +kernel
theorem dX11_adds_59 : decode cX11_adds 59 = .ok (.invokestatic 48, 3) := by decide +kernel
theorem dX11_adds_62 : decode cX11_adds 62 = .ok (.iconst 0, 1) := by decide +kernel
theorem dX11_adds_63 : decode cX11_adds 63 = .ok (.iastore, 1) := by decide +kernel
theorem dX11_adds_64 : decode cX11_adds 64 = .ok (.iconst 0, 1) := by decide +kernel
theorem dX11_adds_65 : decode cX11_adds 65 = .ok (.istore 4, 2) := by decide +kernel
theorem dX11_adds_67 : decode cX11_adds 67 = .ok (.iload 4, 2) := by decide +kernel
theorem dX11_adds_69 : decode cX11_adds 69 = .ok (.iload_n 3, 1) := by decide +kernel
theorem dX11_adds_70 : decode cX11_adds 70 = .ok (.if_icmp .ge 35, 3) := by decide +kernel
theorem dX11_adds_73 : decode cX11_adds 73 = .ok (.aload_n 0, 1) := by decide +kernel
theorem dX11_adds_74 : decode cX11_adds 74 = .ok (.getfield 9, 3) := by decide +kernel
theorem dX11_adds_77 : decode cX11_adds 77 = .ok (.iload 4, 2) := by decide +kernel
theorem dX11_adds_79 : decode cX11_adds 79 = .ok (.iload_n 3, 1) := by decide +kernel
theorem dX11_adds_80 : decode cX11_adds 80 = .ok (.invokestatic 56, 3) := by decide +kernel
theorem dX11_adds_83 : decode cX11_adds 83 = .ok (.bipush 50, 2) := by decide +kernel
theorem dX11_adds_85 : decode cX11_adds 85 = .ok (.iastore, 1) := by decide +kernel
theorem dX11_adds_86 : decode cX11_adds 86 = .ok (.aload_n 0, 1) := by decide +kernel
theorem dX11_adds_87 : decode cX11_adds 87 = .ok (.getfield 9, 3) := by decide +kernel
theorem dX11_adds_90 : decode cX11_adds 90 = .ok (.iload_n 3, 1) := by decide +kernel
theorem dX11_adds_91 : decode cX11_adds 91 = .ok (.iload 4, 2) := by decide +kernel
theorem dX11_adds_93 : decode cX11_adds 93 = .ok (.invokestatic 56, 3) := by decide +kernel
theorem dX11_adds_96 : decode cX11_adds 96 = .ok (.bipush 50, 2) := by decide +kernel
theorem dX11_adds_98 : decode cX11_adds 98 = .ok (.iastore, 1) := by decide +kernel
theorem dX11_adds_99 : decode cX11_adds 99 = .ok (.iinc 4 1, 3) := by decide +kernel
theorem dX11_adds_102 : decode cX11_adds 102 = .ok (.goto (-35), 3) := by decide +kernel
theorem dX11_adds_105 : decode cX11_adds 105 = .ok (.aload_n 0, 1) := by decide +kernel
theorem dX11_adds_106 : decode cX11_adds 106 = .ok (.getfield 9, 3) := by decide +kernel
theorem dX11_adds_109 : decode cX11_adds 109 = .ok (.iconst 0, 1) := by decide +kernel
theorem dX11_adds_110 : decode cX11_adds 110 = .ok (.dup2, 1) := by decide +kernel
theorem dX11_adds_111 : decode cX11_adds 111 = .ok (.iaload, 1) := by decide +kernel
theorem dX11_adds_112 : decode cX11_adds 112 = .ok (.iconst 1, 1) := by decide +kernel
theorem dX11_adds_113 : decode cX11_adds 113 = .ok (.iadd, 1) := by decide +kernel
theorem dX11_adds_114 : decode cX11_adds 114 = .ok (.iastore, 1) := by decide +kernel
theorem dX11_adds_115 : decode cX11_adds 115 = .ok (.iconst 1, 1) := by decide +kernel
theorem dX11_adds_116 : decode cX11_adds 116 = .ok (.ireturn, 1) := by decide +kernel
theorem dX11_isDone_0 : decode cX11_isDone 0 = .ok (.aload_n 0, 1) := by decide +kernel
theorem dX11_isDone_1 : decode cX11_isDone 1 = .ok (.getfield 31, 3) := by decide +kernel
theorem dX11_isDone_4 : decode cX11_isDone 4 = .ok (.iconst 0, 1) := by decide +kernel
theorem dX11_isDone_5 : decode cX11_isDone 5 = .ok (.iaload, 1) := by decide +kernel
theorem dX11_isDone_6 : decode cX11_isDone 6 = .ok (.istore_n 2, 1) := by decide +kernel
theorem dX11_isDone_7 : decode cX11_isDone 7 = .ok (.aload_n 0, 1) := by decide +kernel
theorem dX11_isDone_8 : decode cX11_isDone 8 = .ok (.getfield 31, 3) := by decide +kernel
theorem dX11_isDone_11 : decode cX11_isDone 11 = .ok (.iconst 1, 1) := by decide +kernel
theorem dX11_isDone_12 : decode cX11_isDone 12 = .ok (.iaload, 1) := by decide +kernel
theorem dX11_isDone_13 : decode cX11_isDone 13 = .ok (.istore_n 3, 1) := by decide +kernel
theorem dX11_isDone_14 : decode cX11_isDone 14 = .ok (.iload_n 1, 1) := by decide +kernel
theorem dX11_isDone_15 : decode cX11_isDone 15 = .ok (.tableswitch 237 98 115 #[188, 237, 237, 237, 237, 237, 237, 237, 237, 237, 237, 237, 219, 121, 85, 237, 92, 144], 85) := by decide +kernel
theorem dX11_isDone_100 : decode cX11_isDone 100 = .ok (.aload_n 0, 1) := by decide +kernel
theorem dX11_isDone_101 : decode cX11_isDone 101 = .ok (.iload_n 2, 1) := by decide +kernel
theorem dX11_isDone_102 : decode cX11_isDone 102 = .ok (.iload_n 3, 1) := by decide +kernel
theorem dX11_isDone_103 : decode cX11_isDone 103 = .ok (.invokevirtual 106, 3) := by decide +kernel
theorem dX11_isDone_106 : decode cX11_isDone 106 = .ok (.ireturn, 1) := by decide +kernel
theorem dX11_isDone_107 : decode cX11_isDone 107 = .ok (.aload_n 0, 1) := by decide +kernel
theorem dX11_isDone_108 : decode cX11_isDone 108 = .ok (.iload_n 2, 1) := by decide +kernel
theorem dX11_isDone_109 : decode cX11_isDone 109 = .ok (.iload_n 3, 1) := by decide +kernel
theorem dX11_isDone_110 : decode cX11_isDone 110 = .ok (.invokevirtual 109, 3) := by decide +kernel
theorem dX11_isDone_113 : decode cX11_isDone 113 = .ok (.ifCond .ne 5, 3) := by decide +kernel
theorem dX11_isDone_116 : decode cX11_isDone 116 = .ok (.iconst 0, 1) := by decide +kernel
theorem dX11_isDone_117 : decode cX11_isDone 117 = .ok (.ireturn, 1) := by decide +kernel
theorem dX11_isDone_118 : decode cX11_isDone 118 = .ok (.aload_n 0, 1) := by decide +kernel
theorem dX11_isDone_119 : decode cX11_isDone 119 = .ok (.getfield 9, 3) := by decide +kernel
theorem dX11_isDone_122 : decode cX11_isDone 122 = .ok (.iload_n 2, 1) := by decide +kernel
theorem dX11_isDone_123 : decode cX11_isDone 123 = .ok (.iload_n 3, 1) := by decide +kernel
theorem dX11_isDone_124 : decode cX11_isDone 124 = .ok (.invokestatic 56, 3) := by decide +kernel
theorem dX11_isDone_127 : decode cX11_isDone 127 = .ok (.aload_n 0, 1) := by decide +kernel
theorem dX11_isDone_128 : decode cX11_isDone 128 = .ok (.getfield 31, 3) := by decide +kernel
theorem dX11_isDone_131 : decode cX11_isDone 131 = .ok (.iconst 2, 1) := by decide +kernel
theorem dX11_isDone_132 : decode cX11_isDone 132 = .ok (.iaload, 1) := by decide +kernel
theorem dX11_isDone_133 : decode cX11_isDone 133 = .ok (.iastore, 1) := by decide +kernel
theorem dX11_isDone_134 : decode cX11_isDone 134 = .ok (.iconst 1, 1) := by decide +kernel
theorem dX11_isDone_135 : decode cX11_isDone 135 = .ok (.ireturn, 1) := by decide +kernel
theorem dX11_isDone_136 : decode cX11_isDone 136 = .ok (.aload_n 0, 1) := by decide +kernel
theorem dX11_isDone_137 : decode cX11_isDone 137 = .ok (.iload_n 2, 1) := by decide +kernel
theorem dX11_isDone_138 : decode cX11_isDone 138 = .ok (.invokevirtual 44, 3) := by decide +kernel
theorem dX11_isDone_141 : decode cX11_isDone 141 = .ok (.ifCond .ne 5, 3) := by decide +kernel
theorem dX11_isDone_144 : decode cX11_isDone 144 = .ok (.iconst 0, 1) := by decide +kernel
theorem dX11_isDone_145 : decode cX11_isDone 145 = .ok (.ireturn, 1) := by decide +kernel
theorem dX11_isDone_146 : decode cX11_isDone 146 = .ok (.aload_n 0, 1) := by decide +kernel
theorem dX11_isDone_147 : decode cX11_isDone 147 = .ok (.getfield 9, 3) := by decide +kernel
theorem dX11_isDone_150 : decode cX11_isDone 150 = .ok (.iload_n 2, 1) := by decide +kernel
theorem dX11_isDone_151 : decode cX11_isDone 151 = .ok (.iconst 3, 1) := by decide +kernel
theorem dX11_isDone_152 : decode cX11_isDone 152 = .ok (.invokestatic 48, 3) := by decide +kernel
theorem dX11_isDone_155 : decode cX11_isDone 155 = .ok (.iload_n 3, 1) := by decide +kernel
theorem dX11_isDone_156 : decode cX11_isDone 156 = .ok (.iastore, 1) := by decide +kernel
theorem dX11_isDone_157 : decode cX11_isDone 157 = .ok (.iconst 1, 1) := by decide +kernel
theorem dX11_isDone_158 : decode cX11_isDone 158 = .ok (.ireturn, 1) := by decide +kernel
theorem dX11_isDone_159 : decode cX11_isDone 159 = .ok (.aload_n 0, 1) := by decide +kernel
theorem dX11_isDone_160 : decode cX11_isDone 160 = .ok (.iload_n 2, 1) := by decide +kernel
theorem dX11_isDone_161 : decode cX11_isDone 161 = .ok (.iload_n 3, 1) := by decide +kernel
theorem dX11_isDone_162 : decode cX11_isDone 162 = .ok (.invokevirtual 109, 3) := by decide +kernel
theorem dX11_isDone_165 : decode cX11_isDone 165 = .ok (.ifCond .eq 25, 3) := by decide +kernel
theorem dX11_isDone_168 : decode cX11_isDone 168 = .ok (.aload_n 0, 1) := by decide +kernel
theorem dX11_isDone_169 : decode cX11_isDone 169 = .ok (.getfield 9, 3) := by decide +kernel
theorem dX11_isDone_172 : decode cX11_isDone 172 = .ok (.iload_n 2, 1) := by decide +kernel
theorem dX11_isDone_173 : decode cX11_isDone 173 = .ok (.invokestatic 52, 3) := by decide +kernel
theorem dX11_isDone_176 : decode cX11_isDone 176 = .ok (.ifCond .eq 14, 3) := by decide +kernel
theorem dX11_isDone_179 : decode cX11_isDone 179 = .ok (.aload_n 0, 1) := by decide +kernel
theorem dX11_isDone_180 : decode cX11_isDone 180 = .ok (.getfield 9, 3) := by decide +kernel
theorem dX11_isDone_183 : decode cX11_isDone 183 = .ok (.iload_n 3, 1) := by decide +kernel
theorem dX11_isDone_184 : decode cX11_isDone 184 = .ok (.invokestatic 52, 3) := by decide +kernel
theorem dX11_isDone_187 : decode cX11_isDone 187 = .ok (.ifCond .ne 5, 3) := by decide +kernel
theorem dX11_isDone_190 : decode cX11_isDone 190 = .ok (.iconst 0, 1) := by decide +kernel
theorem dX11_isDone_191 : decode cX11_isDone 191 = .ok (.ireturn, 1) := by decide +kernel
theorem dX11_isDone_192 : decode cX11_isDone 192 = .ok (.aload_n 0, 1) := by decide +kernel
theorem dX11_isDone_193 : decode cX11_isDone 193 = .ok (.getfield 9, 3) := by decide +kernel
theorem dX11_isDone_196 : decode cX11_isDone 196 = .ok (.iload_n 2, 1) := by decide +kernel
theorem dX11_isDone_197 : decode cX11_isDone 197 = .ok (.iload_n 3, 1) := by decide +kernel
theorem dX11_isDone_198 : decode cX11_isDone 198 = .ok (.invokestatic 112, 3) := by decide +kernel
theorem dX11_isDone_201 : decode cX11_isDone 201 = .ok (.iconst 1, 1) := by decide +kernel
theorem dX11_isDone_202 : decode cX11_isDone 202 = .ok (.ireturn, 1) := by decide +kernel
theorem dX11_isDone_203 : decode cX11_isDone 203 = .ok (.aload_n 0, 1) := by decide +kernel
theorem dX11_isDone_204 : decode cX11_isDone 204 = .ok (.iload_n 2, 1) := by decide +kernel
theorem dX11_isDone_205 : decode cX11_isDone 205 = .ok (.invokevirtual 44, 3) := by decide +kernel
theorem dX11_isDone_208 : decode cX11_isDone 208 = .ok (.ifCond .eq 14, 3) := by decide +kernel
theorem dX11_isDone_211 : decode cX11_isDone 211 = .ok (.aload_n 0, 1) := by decide +kernel
theorem dX11_isDone_212 : decode cX11_isDone 212 = .ok (.getfield 9, 3) := by decide +kernel
theorem dX11_isDone_215 : decode cX11_isDone 215 = .ok (.iload_n 2, 1) := by decide +kernel
theorem dX11_isDone_216 : decode cX11_isDone 216 = .ok (.invokestatic 52, 3) := by decide +kernel
theorem dX11_isDone_219 : decode cX11_isDone 219 = .ok (.ifCond .eq 5, 3) := by decide +kernel
theorem dX11_isDone_222 : decode cX11_isDone 222 = .ok (.iconst 0, 1) := by decide +kernel
theorem dX11_isDone_223 : decode cX11_isDone 223 = .ok (.ireturn, 1) := by decide +kernel
theorem dX11_isDone_224 : decode cX11_isDone 224 = .ok (.aload_n 0, 1) := by decide +kernel
theorem dX11_isDone_225 : decode cX11_isDone 225 = .ok (.getfield 9, 3) := by decide +kernel
theorem dX11_isDone_228 : decode cX11_isDone 228 = .ok (.iload_n 2, 1) := by decide +kernel
theorem dX11_isDone_229 : decode cX11_isDone 229 = .ok (.invokestatic 116, 3) := by decide +kernel
theorem dX11_isDone_232 : decode cX11_isDone 232 = .ok (.iconst 1, 1) := by decide +kernel
theorem dX11_isDone_233 : decode cX11_isDone 233 = .ok (.ireturn, 1) := by decide +kernel
theorem dX11_isDone_234 : decode cX11_isDone 234 = .ok (.aload_n 0, 1) := by decide +kernel
theorem dX11_isDone_235 : decode cX11_isDone 235 = .ok (.getfield 9, 3) := by decide +kernel
theorem dX11_isDone_238 : decode cX11_isDone 238 = .ok (.iconst 2, 1) := by decide +kernel
theorem dX11_isDone_239 : decode cX11_isDone 239 = .ok (.iload_n 2, 1) := by decide +kernel
theorem dX11_isDone_240 : decode cX11_isDone 240 = .ok (.iastore, 1) := by decide +kernel
theorem dX11_isDone_241 : decode cX11_isDone 241 = .ok (.iload_n 2, 1) := by decide +kernel
theorem dX11_isDone_242 : decode cX11_isDone 242 = .ok (.iconst 3, 1) := by decide +kernel
theorem dX11_isDone_243 : decode cX11_isDone 243 = .ok (.if_icmp .gt 7, 3) := by decide +kernel
theorem dX11_isDone_246 : decode cX11_isDone 246 = .ok (.iconst 1, 1) := by decide +kernel
theorem dX11_isDone_247 : decode cX11_isDone 247 = .ok (.goto 4, 3) := by decide +kernel
theorem dX11_isDone_250 : decode cX11_isDone 250 = .ok (.iconst 0, 1) := by decide +kernel
theorem dX11_isDone_251 : decode cX11_isDone 251 = .ok (.ireturn, 1) := by decide +kernel
theorem dX11_isDone_252 : decode cX11_isDone 252 = .ok (.iload_n 2, 1) := by decide +kernel
theorem dX11_isDone_253 : decode cX11_isDone 253 = .ok (.iconst 1, 1) := by decide +kernel
theorem dX11_isDone_254 : decode cX11_isDone 254 = .ok (.bipush 60, 2) := by decide +kernel
theorem dX11_isDone_256 : decode cX11_isDone 256 = .ok (.invokestatic 40, 3) := by decide +kernel
theorem dX11_isDone_259 : decode cX11_isDone 259 = .ok (.ifCond .eq 17, 3) := by decide +kernel
theorem dX11_isDone_262 : decode cX11_isDone 262 = .ok (.aload_n 0, 1) := by decide +kernel
theorem dX11_isDone_263 : decode cX11_isDone 263 = .ok (.getfield 9, 3) := by decide +kernel
theorem dX11_isDone_266 : decode cX11_isDone 266 = .ok (.iconst 1, 1) := by decide +kernel
theorem dX11_isDone_267 : decode cX11_isDone 267 = .ok (.iaload, 1) := by decide +kernel
theorem dX11_isDone_268 : decode cX11_isDone 268 = .ok (.iload_n 2, 1) := by decide +kernel
theorem dX11_isDone_269 : decode cX11_isDone 269 = .ok (.iadd, 1) := by decide +kernel
theorem dX11_isDone_270 : decode cX11_isDone 270 = .ok (.sipush 999, 3) := by decide +kernel
theorem dX11_isDone_273 : decode cX11_isDone 273 = .ok (.if_icmp .le 5, 3) := by decide +kernel
theorem dX11_isDone_276 : decode cX11_isDone 276 = .ok (.iconst 0, 1) := by decide +kernel
theorem dX11_isDone_277 : decode cX11_isDone 277 = .ok (.ireturn, 1) := by decide +kernel
theorem dX11_isDone_278 : decode cX11_isDone 278 = .ok (.aload_n 0, 1) := by decide +kernel
theorem dX11_isDone_279 : decode cX11_isDone 279 = .ok (.getfield 9, 3) := by decide +kernel
theorem dX11_isDone_282 : decode cX11_isDone 282 = .ok (.iload_n 2, 1) := by decide +kernel
theorem dX11_isDone_283 : decode cX11_isDone 283 = .ok (.invokestatic 119, 3) := by decide +kernel
theorem dX11_isDone_286 : decode cX11_isDone 286 = .ok (.iconst 1, 1) := by decide +kernel
theorem dX11_isDone_287 : decode cX11_isDone 287 = .ok (.ireturn, 1) := by decide +kernel
theorem dX11_valley_0 : decode cX11_valley 0 = .ok (.aload_n 0, 1) := by decide +kernel
theorem dX11_valley_1 : decode cX11_valley 1 = .ok (.iconst 0, 1) := by decide +kernel
theorem dX11_valley_2 : decode cX11_valley 2 = .ok (.putfield 88, 3) := by decide +kernel
theorem dX11_valley_5 : decode cX11_valley 5 = .ok (.iconst 0, 1) := by decide +kernel
theorem dX11_valley_6 : decode cX11_valley 6 = .ok (.istore_n 1, 1) := by decide +kernel
theorem dX11_valley_7 : decode cX11_valley 7 = .ok (.bipush (-9), 2) := by decide +kernel
theorem dX11_valley_9 : decode cX11_valley 9 = .ok (.istore_n 2, 1) := by decide +kernel
theorem dX11_valley_10 : decode cX11_valley 10 = .ok (.aload_n 0, 1) := by decide +kernel
theorem dX11_valley_11 : decode cX11_valley 11 = .ok (.invokevirtual 122, 3) := by decide +kernel
theorem dX11_valley_14 : decode cX11_valley 14 = .ok (.ifCond .ne 12, 3) := by decide +kernel
theorem dX11_valley_17 : decode cX11_valley 17 = .ok (.sipush (-1000), 3) := by decide +kernel
theorem dX11_valley_20 : decode cX11_valley 20 = .ok (.aload_n 0, 1) := by decide +kernel
theorem dX11_valley_21 : decode cX11_valley 21 = .ok (.getfield 88, 3) := by decide +kernel
theorem dX11_valley_24 : decode cX11_valley 24 = .ok (.isub, 1) := by decide +kernel
theorem dX11_valley_25 : decode cX11_valley 25 = .ok (.istore_n 2, 1) := by decide +kernel
theorem dX11_valley_26 : decode cX11_valley 26 = .ok (.iinc 1 1, 3) := by decide +kernel
theorem dX11_valley_29 : decode cX11_valley 29 = .ok (.iload_n 2, 1) := by decide +kernel
theorem dX11_valley_30 : decode cX11_valley 30 = .ok (.bipush (-9), 2) := by decide +kernel
theorem dX11_valley_32 : decode cX11_valley 32 = .ok (.if_icmp .ne 14, 3) := by decide +kernel
theorem dX11_valley_35 : decode cX11_valley 35 = .ok (.aload_n 0, 1) := by decide +kernel
theorem dX11_valley_36 : decode cX11_valley 36 = .ok (.getfield 88, 3) := by decide +kernel
theorem dX11_valley_39 : decode cX11_valley 39 = .ok (.aload_n 0, 1) := by decide +kernel
theorem dX11_valley_40 : decode cX11_valley 40 = .ok (.getfield 84, 3) := by decide +kernel
theorem dX11_valley_43 : decode cX11_valley 43 = .ok (.if_icmp .lt (-33), 3) := by decide +kernel
theorem dX11_valley_46 : decode cX11_valley 46 = .ok (.aload_n 0, 1) := by decide +kernel
theorem dX11_valley_47 : decode cX11_valley 47 = .ok (.getfield 9, 3) := by decide +kernel
theorem dX11_valley_50 : decode cX11_valley 50 = .ok (.aload_n 0, 1) := by decide +kernel
theorem dX11_valley_51 : decode cX11_valley 51 = .ok (.getfield 19, 3) := by decide +kernel
theorem dX11_valley_54 : decode cX11_valley 54 = .ok (.invokestatic 125, 3) := by decide +kernel
theorem dX11_valley_57 : decode cX11_valley 57 = .ok (.aload_n 0, 1) := by decide +kernel
theorem dX11_valley_58 : decode cX11_valley 58 = .ok (.iconst 0, 1) := by decide +kernel
theorem dX11_valley_59 : decode cX11_valley 59 = .ok (.putfield 88, 3) := by decide +kernel
theorem dX11_valley_62 : decode cX11_valley 62 = .ok (.iload_n 2, 1) := by decide +kernel
theorem dX11_valley_63 : decode cX11_valley 63 = .ok (.bipush (-9), 2) := by decide +kernel
theorem dX11_valley_65 : decode cX11_valley 65 = .ok (.if_icmp .ne 63, 3) := by decide +kernel
theorem dX11_valley_68 : decode cX11_valley 68 = .ok (.aload_n 0, 1) := by decide +kernel
theorem dX11_valley_69 : decode cX11_valley 69 = .ok (.getfield 88, 3) := by decide +kernel
theorem dX11_valley_72 : decode cX11_valley 72 = .ok (.aload_n 0, 1) := by decide +kernel
theorem dX11_valley_73 : decode cX11_valley 73 = .ok (.getfield 84, 3) := by decide +kernel
theorem dX11_valley_76 : decode cX11_valley 76 = .ok (.if_icmp .ge 52, 3) := by decide +kernel
theorem dX11_valley_79 : decode cX11_valley 79 = .ok (.aload_n 0, 1) := by decide +kernel
theorem dX11_valley_80 : decode cX11_valley 80 = .ok (.getfield 88, 3) := by decide +kernel
theorem dX11_valley_83 : decode cX11_valley 83 = .ok (.istore_n 3, 1) := by decide +kernel
theorem dX11_valley_84 : decode cX11_valley 84 = .ok (.aload_n 0, 1) := by decide +kernel
theorem dX11_valley_85 : decode cX11_valley 85 = .ok (.invokevirtual 91, 3) := by decide +kernel
theorem dX11_valley_88 : decode cX11_valley 88 = .ok (.istore 4, 2) := by decide +kernel
theorem dX11_valley_90 : decode cX11_valley 90 = .ok (.aload_n 0, 1) := by decide +kernel
theorem dX11_valley_91 : decode cX11_valley 91 = .ok (.invokevirtual 122, 3) := by decide +kernel
theorem dX11_valley_94 : decode cX11_valley 94 = .ok (.istore 5, 2) := by decide +kernel
theorem dX11_valley_96 : decode cX11_valley 96 = .ok (.aload_n 0, 1) := by decide +kernel
theorem dX11_valley_97 : decode cX11_valley 97 = .ok (.iload 4, 2) := by decide +kernel
theorem dX11_valley_99 : decode cX11_valley 99 = .ok (.invokevirtual 129, 3) := by decide +kernel
theorem dX11_valley_102 : decode cX11_valley 102 = .ok (.ifCond .eq 6, 3) := by decide +kernel
theorem dX11_valley_105 : decode cX11_valley 105 = .ok (.goto (-43), 3) := by decide +kernel
theorem dX11_valley_108 : decode cX11_valley 108 = .ok (.sipush (-2000), 3) := by decide +kernel
theorem dX11_valley_111 : decode cX11_valley 111 = .ok (.iload_n 3, 1) := by decide +kernel
theorem dX11_valley_112 : decode cX11_valley 112 = .ok (.isub, 1) := by decide +kernel
theorem dX11_valley_113 : decode cX11_valley 113 = .ok (.istore_n 2, 1) := by decide +kernel
theorem dX11_valley_114 : decode cX11_valley 114 = .ok (.aload_n 0, 1) := by decide +kernel
theorem dX11_valley_115 : decode cX11_valley 115 = .ok (.getfield 19, 3) := by decide +kernel
theorem dX11_valley_118 : decode cX11_valley 118 = .ok (.aload_n 0, 1) := by decide +kernel
theorem dX11_valley_119 : decode cX11_valley 119 = .ok (.getfield 9, 3) := by decide +kernel
theorem dX11_valley_122 : decode cX11_valley 122 = .ok (.invokestatic 125, 3) := by decide +kernel
theorem dX11_valley_125 : decode cX11_valley 125 = .ok (.goto (-63), 3) := by decide +kernel
theorem dX11_valley_128 : decode cX11_valley 128 = .ok (.aload_n 0, 1) := by decide +kernel
theorem dX11_valley_129 : decode cX11_valley 129 = .ok (.iconst 0, 1) := by decide +kernel
theorem dX11_valley_130 : decode cX11_valley 130 = .ok (.putfield 84, 3) := by decide +kernel
theorem dX11_valley_133 : decode cX11_valley 133 = .ok (.iload_n 2, 1) := by decide +kernel
theorem dX11_valley_134 : decode cX11_valley 134 = .ok (.bipush (-9), 2) := by decide +kernel
theorem dX11_valley_136 : decode cX11_valley 136 = .ok (.if_icmp .ne 7, 3) := by decide +kernel
theorem dX11_valley_139 : decode cX11_valley 139 = .ok (.iload_n 1, 1) := by decide +kernel
theorem dX11_valley_140 : decode cX11_valley 140 = .ok (.goto 4, 3) := by decide +kernel
theorem dX11_valley_143 : decode cX11_valley 143 = .ok (.iload_n 2, 1) := by decide +kernel
theorem dX11_valley_144 : decode cX11_valley 144 = .ok (.ireturn, 1) := by decide +kernel
theorem dX11_person_0 : decode cX11_person 0 = .ok (.aload_n 0, 1) := by decide +kernel
theorem dX11_person_1 : decode cX11_person 1 = .ok (.iload_n 1, 1) := by decide +kernel
theorem dX11_person_2 : decode cX11_person 2 = .ok (.invokevirtual 44, 3) := by decide +kernel
theorem dX11_person_5 : decode cX11_person 5 = .ok (.ifCond .ne 9, 3) := by decide +kernel
theorem dX11_person_8 : decode cX11_person 8 = .ok (.aload_n 0, 1) := by decide +kernel
theorem dX11_person_9 : decode cX11_person 9 = .ok (.iconst (-1), 1) := by decide +kernel
theorem dX11_person_10 : decode cX11_person 10 = .ok (.invokevirtual 36, 3) := by decide +kernel
theorem dX11_person_13 : decode cX11_person 13 = .ok (.ireturn, 1) := by decide +kernel
theorem dX11_person_14 : decode cX11_person 14 = .ok (.iload_n 2, 1) := by decide +kernel
theorem dX11_person_15 : decode cX11_person 15 = .ok (.iconst 0, 1) := by decide +kernel
theorem dX11_person_16 : decode cX11_person 16 = .ok (.iconst 3, 1) := by decide +kernel
theorem dX11_person_17 : decode cX11_person 17 = .ok (.invokestatic 40, 3) := by decide +kernel
theorem dX11_person_20 : decode cX11_person 20 = .ok (.ifCond .eq 14, 3) := by decide +kernel
theorem dX11_person_23 : decode cX11_person 23 = .ok (.aload_n 0, 1) := by decide +kernel
theorem dX11_person_24 : decode cX11_person 24 = .ok (.getfield 9, 3) := by decide +kernel
theorem dX11_person_27 : decode cX11_person 27 = .ok (.iload_n 1, 1) := by decide +kernel
theorem dX11_person_28 : decode cX11_person 28 = .ok (.iload_n 2, 1) := by decide +kernel
theorem dX11_person_29 : decode cX11_person 29 = .ok (.invokestatic 48, 3) := by decide +kernel
theorem dX11_person_32 : decode cX11_person 32 = .ok (.iaload, 1) := by decide +kernel
theorem dX11_person_33 : decode cX11_person 33 = .ok (.ireturn, 1) := by decide +kernel
theorem dX11_person_34 : decode cX11_person 34 = .ok (.iload_n 2, 1) := by decide +kernel
theorem dX11_person_35 : decode cX11_person 35 = .ok (.iconst 4, 1) := by decide +kernel
theorem dX11_person_36 : decode cX11_person 36 = .ok (.if_icmp .ne 14, 3) := by decide +kernel
theorem dX11_person_39 : decode cX11_person 39 = .ok (.aload_n 0, 1) := by decide +kernel
theorem dX11_person_40 : decode cX11_person 40 = .ok (.getfield 9, 3) := by decide +kernel
theorem dX11_person_43 : decode cX11_person 43 = .ok (.iload_n 1, 1) := by decide +kernel
theorem dX11_person_44 : decode cX11_person 44 = .ok (.invokestatic 62, 3) := by decide +kernel
theorem dX11_person_47 : decode cX11_person 47 = .ok (.goto 33, 3) := by decide +kernel
theorem dX11_person_50 : decode cX11_person 50 = .ok (.iload_n 2, 1) := by decide +kernel
theorem dX11_person_51 : decode cX11_person 51 = .ok (.iconst 5, 1) := by decide +kernel
theorem dX11_person_52 : decode cX11_person 52 = .ok (.if_icmp .eq 12, 3) := by decide +kernel
theorem dX11_person_55 : decode cX11_person 55 = .ok (.aload_n 0, 1) := by decide +kernel
theorem dX11_person_56 : decode cX11_person 56 = .ok (.bipush (-2), 2) := by decide +kernel
theorem dX11_person_58 : decode cX11_person 58 = .ok (.invokevirtual 36, 3) := by decide +kernel
theorem dX11_person_61 : decode cX11_person 61 = .ok (.goto 19, 3) := by decide +kernel
theorem dX11_person_64 : decode cX11_person 64 = .ok (.aload_n 0, 1) := by decide +kernel
theorem dX11_person_65 : decode cX11_person 65 = .ok (.getfield 9, 3) := by decide +kernel
theorem dX11_person_68 : decode cX11_person 68 = .ok (.iload_n 1, 1) := by decide +kernel
theorem dX11_person_69 : decode cX11_person 69 = .ok (.invokestatic 59, 3) := by decide +kernel
theorem dX11_person_72 : decode cX11_person 72 = .ok (.ifCond .eq 7, 3) := by decide +kernel
theorem dX11_person_75 : decode cX11_person 75 = .ok (.iconst 1, 1) := by decide +kernel
theorem dX11_person_76 : decode cX11_person 76 = .ok (.goto 4, 3) := by decide +kernel
theorem dX11_person_79 : decode cX11_person 79 = .ok (.iconst 0, 1) := by decide +kernel
theorem dX11_person_80 : decode cX11_person 80 = .ok (.ireturn, 1) := by decide +kernel
theorem dX11_memory_0 : decode cX11_memory 0 = .ok (.aload_n 0, 1) := by decide +kernel
theorem dX11_memory_1 : decode cX11_memory 1 = .ok (.iload_n 1, 1) := by decide +kernel
theorem dX11_memory_2 : decode cX11_memory 2 = .ok (.iload_n 2, 1) := by decide +kernel
theorem dX11_memory_3 : decode cX11_memory 3 = .ok (.invokevirtual 109, 3) := by decide +kernel
theorem dX11_memory_6 : decode cX11_memory 6 = .ok (.ifCond .eq 16, 3) := by decide +kernel
theorem dX11_memory_9 : decode cX11_memory 9 = .ok (.aload_n 0, 1) := by decide +kernel
theorem dX11_memory_10 : decode cX11_memory 10 = .ok (.getfield 9, 3) := by decide +kernel
theorem dX11_memory_13 : decode cX11_memory 13 = .ok (.iload_n 1, 1) := by decide +kernel
theorem dX11_memory_14 : decode cX11_memory 14 = .ok (.iload_n 2, 1) := by decide +kernel
theorem dX11_memory_15 : decode cX11_memory 15 = .ok (.invokestatic 56, 3) := by decide +kernel
theorem dX11_memory_18 : decode cX11_memory 18 = .ok (.iaload, 1) := by decide +kernel
theorem dX11_memory_19 : decode cX11_memory 19 = .ok (.goto 8, 3) := by decide +kernel
theorem dX11_memory_22 : decode cX11_memory 22 = .ok (.aload_n 0, 1) := by decide +kernel
theorem dX11_memory_23 : decode cX11_memory 23 = .ok (.iconst (-1), 1) := by decide +kernel
theorem dX11_memory_24 : decode cX11_memory 24 = .ok (.invokevirtual 36, 3) := by decide +kernel
theorem dX11_memory_27 : decode cX11_memory 27 = .ok (.ireturn, 1) := by decide +kernel
theorem dX11_wrongBy_0 : decode cX11_wrongBy 0 = .ok (.iload_n 0, 1) := by decide +kernel
theorem dX11_wrongBy_1 : decode cX11_wrongBy 1 = .ok (.iload_n 1, 1) := by decide +kernel
theorem dX11_wrongBy_2 : decode cX11_wrongBy 2 = .ok (.if_icmp .ge 8, 3) := by decide +kernel
theorem dX11_wrongBy_5 : decode cX11_wrongBy 5 = .ok (.bipush (-4), 2) := by decide +kernel
theorem dX11_wrongBy_7 : decode cX11_wrongBy 7 = .ok (.goto 14, 3) := by decide +kernel
theorem dX11_wrongBy_10 : decode cX11_wrongBy 10 = .ok (.iload_n 0, 1) := by decide +kernel
theorem dX11_wrongBy_11 : decode cX11_wrongBy 11 = .ok (.iload_n 2, 1) := by decide +kernel
theorem dX11_wrongBy_12 : decode cX11_wrongBy 12 = .ok (.if_icmp .le 8, 3) := by decide +kernel
theorem dX11_wrongBy_15 : decode cX11_wrongBy 15 = .ok (.bipush (-6), 2) := by decide +kernel
theorem dX11_wrongBy_17 : decode cX11_wrongBy 17 = .ok (.goto 4, 3) := by decide +kernel
theorem dX11_wrongBy_20 : decode cX11_wrongBy 20 = .ok (.iconst 0, 1) := by decide +kernel
theorem dX11_wrongBy_21 : decode cX11_wrongBy 21 = .ok (.ireturn, 1) := by decide +kernel
theorem dX11_recalls_0 : decode cX11_recalls 0 = .ok (.aload_n 0, 1) := by decide +kernel
theorem dX11_recalls_1 : decode cX11_recalls 1 = .ok (.iload_n 1, 1) := by decide +kernel
theorem dX11_recalls_2 : decode cX11_recalls 2 = .ok (.iload_n 2, 1) := by decide +kernel
theorem dX11_recalls_3 : decode cX11_recalls 3 = .ok (.invokevirtual 109, 3) := by decide +kernel
theorem dX11_recalls_6 : decode cX11_recalls 6 = .ok (.ifCond .eq 13, 3) := by decide +kernel
theorem dX11_recalls_9 : decode cX11_recalls 9 = .ok (.iload_n 3, 1) := by decide +kernel
theorem dX11_recalls_10 : decode cX11_recalls 10 = .ok (.iconst 0, 1) := by decide +kernel
theorem dX11_recalls_11 : decode cX11_recalls 11 = .ok (.bipush 99, 2) := by decide +kernel
theorem dX11_recalls_13 : decode cX11_recalls 13 = .ok (.invokestatic 132, 3) := by decide +kernel
theorem dX11_recalls_16 : decode cX11_recalls 16 = .ok (.goto 4, 3) := by decide +kernel
theorem dX11_recalls_19 : decode cX11_recalls 19 = .ok (.iconst (-1), 1) := by decide +kernel
theorem dX11_recalls_20 : decode cX11_recalls 20 = .ok (.istore 4, 2) := by decide +kernel
theorem dX11_recalls_22 : decode cX11_recalls 22 = .ok (.iload 4, 2) := by decide +kernel
theorem dX11_recalls_24 : decode cX11_recalls 24 = .ok (.ifCond .eq 10, 3) := by decide +kernel
theorem dX11_recalls_27 : decode cX11_recalls 27 = .ok (.aload_n 0, 1) := by decide +kernel
theorem dX11_recalls_28 : decode cX11_recalls 28 = .ok (.iload 4, 2) := by decide +kernel
theorem dX11_recalls_30 : decode cX11_recalls 30 = .ok (.invokevirtual 36, 3) := by decide +kernel
theorem dX11_recalls_33 : decode cX11_recalls 33 = .ok (.ireturn, 1) := by decide +kernel
theorem dX11_recalls_34 : decode cX11_recalls 34 = .ok (.aload_n 0, 1) := by decide +kernel
theorem dX11_recalls_35 : decode cX11_recalls 35 = .ok (.getfield 9, 3) := by decide +kernel
theorem dX11_recalls_38 : decode cX11_recalls 38 = .ok (.iload_n 1, 1) := by decide +kernel
theorem dX11_recalls_39 : decode cX11_recalls 39 = .ok (.iload_n 2, 1) := by decide +kernel
theorem dX11_recalls_40 : decode cX11_recalls 40 = .ok (.invokestatic 56, 3) := by decide +kernel
theorem dX11_recalls_43 : decode cX11_recalls 43 = .ok (.iaload, 1) := by decide +kernel
theorem dX11_recalls_44 : decode cX11_recalls 44 = .ok (.istore 5, 2) := by decide +kernel
theorem dX11_recalls_46 : decode cX11_recalls 46 = .ok (.aload_n 0, 1) := by decide +kernel
theorem dX11_recalls_47 : decode cX11_recalls 47 = .ok (.getfield 9, 3) := by decide +kernel
theorem dX11_recalls_50 : decode cX11_recalls 50 = .ok (.iload_n 1, 1) := by decide +kernel
theorem dX11_recalls_51 : decode cX11_recalls 51 = .ok (.iload_n 2, 1) := by decide +kernel
theorem dX11_recalls_52 : decode cX11_recalls 52 = .ok (.invokestatic 56, 3) := by decide +kernel
theorem dX11_recalls_55 : decode cX11_recalls 55 = .ok (.iload_n 3, 1) := by decide +kernel
theorem dX11_recalls_56 : decode cX11_recalls 56 = .ok (.iastore, 1) := by decide +kernel
theorem dX11_recalls_57 : decode cX11_recalls 57 = .ok (.iload 5, 2) := by decide +kernel
theorem dX11_recalls_59 : decode cX11_recalls 59 = .ok (.ireturn, 1) := by decide +kernel
theorem dX11_speaks_0 : decode cX11_speaks 0 = .ok (.aload_n 0, 1) := by decide +kernel
theorem dX11_speaks_1 : decode cX11_speaks 1 = .ok (.iload_n 1, 1) := by decide +kernel
theorem dX11_speaks_2 : decode cX11_speaks 2 = .ok (.iload_n 2, 1) := by decide +kernel
theorem dX11_speaks_3 : decode cX11_speaks 3 = .ok (.invokevirtual 109, 3) := by decide +kernel
theorem dX11_speaks_6 : decode cX11_speaks 6 = .ok (.ifCond .ne 9, 3) := by decide +kernel
theorem dX11_speaks_9 : decode cX11_speaks 9 = .ok (.aload_n 0, 1) := by decide +kernel
theorem dX11_speaks_10 : decode cX11_speaks 10 = .ok (.iconst (-1), 1) := by decide +kernel
theorem dX11_speaks_11 : decode cX11_speaks 11 = .ok (.invokevirtual 36, 3) := by decide +kernel
theorem dX11_speaks_14 : decode cX11_speaks 14 = .ok (.ireturn, 1) := by decide +kernel
theorem dX11_speaks_15 : decode cX11_speaks 15 = .ok (.aload_n 0, 1) := by decide +kernel
theorem dX11_speaks_16 : decode cX11_speaks 16 = .ok (.getfield 9, 3) := by decide +kernel
theorem dX11_speaks_19 : decode cX11_speaks 19 = .ok (.iload_n 1, 1) := by decide +kernel
theorem dX11_speaks_20 : decode cX11_speaks 20 = .ok (.invokestatic 52, 3) := by decide +kernel
theorem dX11_speaks_23 : decode cX11_speaks 23 = .ok (.ifCond .eq 14, 3) := by decide +kernel
theorem dX11_speaks_26 : decode cX11_speaks 26 = .ok (.aload_n 0, 1) := by decide +kernel
theorem dX11_speaks_27 : decode cX11_speaks 27 = .ok (.getfield 9, 3) := by decide +kernel
theorem dX11_speaks_30 : decode cX11_speaks 30 = .ok (.iload_n 2, 1) := by decide +kernel
theorem dX11_speaks_31 : decode cX11_speaks 31 = .ok (.invokestatic 52, 3) := by decide +kernel
theorem dX11_speaks_34 : decode cX11_speaks 34 = .ok (.ifCond .ne 10, 3) := by decide +kernel
theorem dX11_speaks_37 : decode cX11_speaks 37 = .ok (.aload_n 0, 1) := by decide +kernel
theorem dX11_speaks_38 : decode cX11_speaks 38 = .ok (.bipush (-3), 2) := by decide +kernel
theorem dX11_speaks_40 : decode cX11_speaks 40 = .ok (.invokevirtual 36, 3) := by decide +kernel
theorem dX11_speaks_43 : decode cX11_speaks 43 = .ok (.ireturn, 1) := by decide +kernel
theorem dX11_speaks_44 : decode cX11_speaks 44 = .ok (.aload_n 0, 1) := by decide +kernel
theorem dX11_speaks_45 : decode cX11_speaks 45 = .ok (.getfield 9, 3) := by decide +kernel
theorem dX11_speaks_48 : decode cX11_speaks 48 = .ok (.iload_n 1, 1) := by decide +kernel
theorem dX11_speaks_49 : decode cX11_speaks 49 = .ok (.iload_n 2, 1) := by decide +kernel
theorem dX11_speaks_50 : decode cX11_speaks 50 = .ok (.invokestatic 112, 3) := by decide +kernel
theorem dX11_speaks_53 : decode cX11_speaks 53 = .ok (.aload_n 0, 1) := by decide +kernel
theorem dX11_speaks_54 : decode cX11_speaks 54 = .ok (.getfield 9, 3) := by decide +kernel
theorem dX11_speaks_57 : decode cX11_speaks 57 = .ok (.iload_n 1, 1) := by decide +kernel
theorem dX11_speaks_58 : decode cX11_speaks 58 = .ok (.iload_n 2, 1) := by decide +kernel
theorem dX11_speaks_59 : decode cX11_speaks 59 = .ok (.invokestatic 56, 3) := by decide +kernel
theorem dX11_speaks_62 : decode cX11_speaks 62 = .ok (.iaload, 1) := by decide +kernel
theorem dX11_speaks_63 : decode cX11_speaks 63 = .ok (.aload_n 0, 1) := by decide +kernel
theorem dX11_speaks_64 : decode cX11_speaks 64 = .ok (.getfield 9, 3) := by decide +kernel
theorem dX11_speaks_67 : decode cX11_speaks 67 = .ok (.iload_n 2, 1) := by decide +kernel
theorem dX11_speaks_68 : decode cX11_speaks 68 = .ok (.iload_n 1, 1) := by decide +kernel
theorem dX11_speaks_69 : decode cX11_speaks 69 = .ok (.invokestatic 56, 3) := by decide +kernel
theorem dX11_speaks_72 : decode cX11_speaks 72 = .ok (.iaload, 1) := by decide +kernel
theorem dX11_speaks_73 : decode cX11_speaks 73 = .ok (.iadd, 1) := by decide +kernel
theorem dX11_speaks_74 : decode cX11_speaks 74 = .ok (.ireturn, 1) := by decide +kernel
theorem dX11_owes_0 : decode cX11_owes 0 = .ok (.aload_n 0, 1) := by decide +kernel
theorem dX11_owes_1 : decode cX11_owes 1 = .ok (.iload_n 1, 1) := by decide +kernel
theorem dX11_owes_2 : decode cX11_owes 2 = .ok (.invokevirtual 44, 3) := by decide +kernel
theorem dX11_owes_5 : decode cX11_owes 5 = .ok (.ifCond .eq 13, 3) := by decide +kernel
theorem dX11_owes_8 : decode cX11_owes 8 = .ok (.iload_n 2, 1) := by decide +kernel
theorem dX11_owes_9 : decode cX11_owes 9 = .ok (.iconst 0, 1) := by decide +kernel
theorem dX11_owes_10 : decode cX11_owes 10 = .ok (.bipush 99, 2) := by decide +kernel
theorem dX11_owes_12 : decode cX11_owes 12 = .ok (.invokestatic 132, 3) := by decide +kernel
theorem dX11_owes_15 : decode cX11_owes 15 = .ok (.goto 4, 3) := by decide +kernel
theorem dX11_owes_18 : decode cX11_owes 18 = .ok (.iconst (-1), 1) := by decide +kernel
theorem dX11_owes_19 : decode cX11_owes 19 = .ok (.istore_n 3, 1) := by decide +kernel
theorem dX11_owes_20 : decode cX11_owes 20 = .ok (.iload_n 3, 1) := by decide +kernel
theorem dX11_owes_21 : decode cX11_owes 21 = .ok (.ifCond .eq 9, 3) := by decide +kernel
theorem dX11_owes_24 : decode cX11_owes 24 = .ok (.aload_n 0, 1) := by decide +kernel
theorem dX11_owes_25 : decode cX11_owes 25 = .ok (.iload_n 3, 1) := by decide +kernel
theorem dX11_owes_26 : decode cX11_owes 26 = .ok (.invokevirtual 36, 3) := by decide +kernel
theorem dX11_owes_29 : decode cX11_owes 29 = .ok (.ireturn, 1) := by decide +kernel
theorem dX11_owes_30 : decode cX11_owes 30 = .ok (.aload_n 0, 1) := by decide +kernel
theorem dX11_owes_31 : decode cX11_owes 31 = .ok (.getfield 9, 3) := by decide +kernel
theorem dX11_owes_34 : decode cX11_owes 34 = .ok (.iload_n 1, 1) := by decide +kernel
theorem dX11_owes_35 : decode cX11_owes 35 = .ok (.iconst 3, 1) := by decide +kernel
theorem dX11_owes_36 : decode cX11_owes 36 = .ok (.invokestatic 48, 3) := by decide +kernel
theorem dX11_owes_39 : decode cX11_owes 39 = .ok (.iaload, 1) := by decide +kernel
theorem dX11_owes_40 : decode cX11_owes 40 = .ok (.istore 4, 2) := by decide +kernel
theorem dX11_owes_42 : decode cX11_owes 42 = .ok (.aload_n 0, 1) := by decide +kernel
theorem dX11_owes_43 : decode cX11_owes 43 = .ok (.getfield 9, 3) := by decide +kernel
theorem dX11_owes_46 : decode cX11_owes 46 = .ok (.iload_n 1, 1) := by decide +kernel
theorem dX11_owes_47 : decode cX11_owes 47 = .ok (.iconst 3, 1) := by decide +kernel
theorem dX11_owes_48 : decode cX11_owes 48 = .ok (.invokestatic 48, 3) := by decide +kernel
theorem dX11_owes_51 : decode cX11_owes 51 = .ok (.iload_n 2, 1) := by decide +kernel
theorem dX11_owes_52 : decode cX11_owes 52 = .ok (.iastore, 1) := by decide +kernel
theorem dX11_owes_53 : decode cX11_owes 53 = .ok (.iload 4, 2) := by decide +kernel
theorem dX11_owes_55 : decode cX11_owes 55 = .ok (.ireturn, 1) := by decide +kernel
theorem dX11_back_0 : decode cX11_back 0 = .ok (.aload_n 0, 1) := by decide +kernel
theorem dX11_back_1 : decode cX11_back 1 = .ok (.iload_n 1, 1) := by decide +kernel
theorem dX11_back_2 : decode cX11_back 2 = .ok (.invokevirtual 44, 3) := by decide +kernel
theorem dX11_back_5 : decode cX11_back 5 = .ok (.ifCond .ne 9, 3) := by decide +kernel
theorem dX11_back_8 : decode cX11_back 8 = .ok (.aload_n 0, 1) := by decide +kernel
theorem dX11_back_9 : decode cX11_back 9 = .ok (.iconst (-1), 1) := by decide +kernel
theorem dX11_back_10 : decode cX11_back 10 = .ok (.invokevirtual 36, 3) := by decide +kernel
theorem dX11_back_13 : decode cX11_back 13 = .ok (.ireturn, 1) := by decide +kernel
theorem dX11_back_14 : decode cX11_back 14 = .ok (.aload_n 0, 1) := by decide +kernel
theorem dX11_back_15 : decode cX11_back 15 = .ok (.getfield 9, 3) := by decide +kernel
theorem dX11_back_18 : decode cX11_back 18 = .ok (.iload_n 1, 1) := by decide +kernel
theorem dX11_back_19 : decode cX11_back 19 = .ok (.invokestatic 52, 3) := by decide +kernel
theorem dX11_back_22 : decode cX11_back 22 = .ok (.ifCond .eq 10, 3) := by decide +kernel
theorem dX11_back_25 : decode cX11_back 25 = .ok (.aload_n 0, 1) := by decide +kernel
theorem dX11_back_26 : decode cX11_back 26 = .ok (.bipush (-3), 2) := by decide +kernel
theorem dX11_back_28 : decode cX11_back 28 = .ok (.invokevirtual 36, 3) := by decide +kernel
theorem dX11_back_31 : decode cX11_back 31 = .ok (.ireturn, 1) := by decide +kernel
theorem dX11_back_32 : decode cX11_back 32 = .ok (.aload_n 0, 1) := by decide +kernel
theorem dX11_back_33 : decode cX11_back 33 = .ok (.getfield 9, 3) := by decide +kernel
theorem dX11_back_36 : decode cX11_back 36 = .ok (.iload_n 1, 1) := by decide +kernel
theorem dX11_back_37 : decode cX11_back 37 = .ok (.invokestatic 116, 3) := by decide +kernel
theorem dX11_back_40 : decode cX11_back 40 = .ok (.aload_n 0, 1) := by decide +kernel
theorem dX11_back_41 : decode cX11_back 41 = .ok (.getfield 9, 3) := by decide +kernel
theorem dX11_back_44 : decode cX11_back 44 = .ok (.invokestatic 136, 3) := by decide +kernel
theorem dX11_back_47 : decode cX11_back 47 = .ok (.invokestatic 139, 3) := by decide +kernel
theorem dX11_back_50 : decode cX11_back 50 = .ok (.ireturn, 1) := by decide +kernel
theorem dX11_names_0 : decode cX11_names 0 = .ok (.iload_n 1, 1) := by decide +kernel
theorem dX11_names_1 : decode cX11_names 1 = .ok (.iconst 0, 1) := by decide +kernel
theorem dX11_names_2 : decode cX11_names 2 = .ok (.iconst 3, 1) := by decide +kernel
theorem dX11_names_3 : decode cX11_names 3 = .ok (.invokestatic 132, 3) := by decide +kernel
theorem dX11_names_6 : decode cX11_names 6 = .ok (.istore_n 2, 1) := by decide +kernel
theorem dX11_names_7 : decode cX11_names 7 = .ok (.iload_n 2, 1) := by decide +kernel
theorem dX11_names_8 : decode cX11_names 8 = .ok (.ifCond .eq 9, 3) := by decide +kernel
theorem dX11_names_11 : decode cX11_names 11 = .ok (.aload_n 0, 1) := by decide +kernel
theorem dX11_names_12 : decode cX11_names 12 = .ok (.iload_n 2, 1) := by decide +kernel
theorem dX11_names_13 : decode cX11_names 13 = .ok (.invokevirtual 36, 3) := by decide +kernel
theorem dX11_names_16 : decode cX11_names 16 = .ok (.ireturn, 1) := by decide +kernel
theorem dX11_names_17 : decode cX11_names 17 = .ok (.aload_n 0, 1) := by decide +kernel
theorem dX11_names_18 : decode cX11_names 18 = .ok (.getfield 9, 3) := by decide +kernel
theorem dX11_names_21 : decode cX11_names 21 = .ok (.iconst 2, 1) := by decide +kernel
theorem dX11_names_22 : decode cX11_names 22 = .ok (.iaload, 1) := by decide +kernel
theorem dX11_names_23 : decode cX11_names 23 = .ok (.istore_n 3, 1) := by decide +kernel
theorem dX11_names_24 : decode cX11_names 24 = .ok (.aload_n 0, 1) := by decide +kernel
theorem dX11_names_25 : decode cX11_names 25 = .ok (.getfield 9, 3) := by decide +kernel
theorem dX11_names_28 : decode cX11_names 28 = .ok (.iconst 2, 1) := by decide +kernel
theorem dX11_names_29 : decode cX11_names 29 = .ok (.iload_n 1, 1) := by decide +kernel
theorem dX11_names_30 : decode cX11_names 30 = .ok (.iastore, 1) := by decide +kernel
theorem dX11_names_31 : decode cX11_names 31 = .ok (.iload_n 3, 1) := by decide +kernel
theorem dX11_names_32 : decode cX11_names 32 = .ok (.ireturn, 1) := by decide +kernel
theorem dX11_turn_0 : decode cX11_turn 0 = .ok (.aload_n 0, 1) := by decide +kernel
theorem dX11_turn_1 : decode cX11_turn 1 = .ok (.iload_n 1, 1) := by decide +kernel
theorem dX11_turn_2 : decode cX11_turn 2 = .ok (.invokevirtual 44, 3) := by decide +kernel
theorem dX11_turn_5 : decode cX11_turn 5 = .ok (.ifCond .ne 7, 3) := by decide +kernel
theorem dX11_turn_8 : decode cX11_turn 8 = .ok (.iconst (-1), 1) := by decide +kernel
theorem dX11_turn_9 : decode cX11_turn 9 = .ok (.goto 24, 3) := by decide +kernel
theorem dX11_turn_12 : decode cX11_turn 12 = .ok (.iload_n 2, 1) := by decide +kernel
theorem dX11_turn_13 : decode cX11_turn 13 = .ok (.iconst 0, 1) := by decide +kernel
theorem dX11_turn_14 : decode cX11_turn 14 = .ok (.iconst 5, 1) := by decide +kernel
theorem dX11_turn_15 : decode cX11_turn 15 = .ok (.invokestatic 40, 3) := by decide +kernel
theorem dX11_turn_18 : decode cX11_turn 18 = .ok (.ifCond .ne 8, 3) := by decide +kernel
theorem dX11_turn_21 : decode cX11_turn 21 = .ok (.bipush (-2), 2) := by decide +kernel
theorem dX11_turn_23 : decode cX11_turn 23 = .ok (.goto 10, 3) := by decide +kernel
theorem dX11_turn_26 : decode cX11_turn 26 = .ok (.iload_n 3, 1) := by decide +kernel
theorem dX11_turn_27 : decode cX11_turn 27 = .ok (.iconst 0, 1) := by decide +kernel
theorem dX11_turn_28 : decode cX11_turn 28 = .ok (.bipush 9, 2) := by decide +kernel
theorem dX11_turn_30 : decode cX11_turn 30 = .ok (.invokestatic 132, 3) := by decide +kernel
theorem dX11_turn_33 : decode cX11_turn 33 = .ok (.istore 4, 2) := by decide +kernel
theorem dX11_turn_35 : decode cX11_turn 35 = .ok (.iload 4, 2) := by decide +kernel
theorem dX11_turn_37 : decode cX11_turn 37 = .ok (.ifCond .eq 10, 3) := by decide +kernel
theorem dX11_turn_40 : decode cX11_turn 40 = .ok (.aload_n 0, 1) := by decide +kernel
theorem dX11_turn_41 : decode cX11_turn 41 = .ok (.iload 4, 2) := by decide +kernel
theorem dX11_turn_43 : decode cX11_turn 43 = .ok (.invokevirtual 36, 3) := by decide +kernel
theorem dX11_turn_46 : decode cX11_turn 46 = .ok (.ireturn, 1) := by decide +kernel
theorem dX11_turn_47 : decode cX11_turn 47 = .ok (.bipush 10, 2) := by decide +kernel
theorem dX11_turn_49 : decode cX11_turn 49 = .ok (.aload_n 0, 1) := by decide +kernel
theorem dX11_turn_50 : decode cX11_turn 50 = .ok (.getfield 9, 3) := by decide +kernel
theorem dX11_turn_53 : decode cX11_turn 53 = .ok (.iload_n 1, 1) := by decide +kernel
theorem dX11_turn_54 : decode cX11_turn 54 = .ok (.iconst 0, 1) := by decide +kernel
theorem dX11_turn_55 : decode cX11_turn 55 = .ok (.invokestatic 48, 3) := by decide +kernel
theorem dX11_turn_58 : decode cX11_turn 58 = .ok (.iaload, 1) := by decide +kernel
theorem dX11_turn_59 : decode cX11_turn 59 = .ok (.imul, 1) := by decide +kernel
theorem dX11_turn_60 : decode cX11_turn 60 = .ok (.aload_n 0, 1) := by decide +kernel
theorem dX11_turn_61 : decode cX11_turn 61 = .ok (.getfield 9, 3) := by decide +kernel
theorem dX11_turn_64 : decode cX11_turn 64 = .ok (.iload_n 1, 1) := by decide +kernel
theorem dX11_turn_65 : decode cX11_turn 65 = .ok (.iconst 1, 1) := by decide +kernel
theorem dX11_turn_66 : decode cX11_turn 66 = .ok (.invokestatic 48, 3) := by decide +kernel
theorem dX11_turn_69 : decode cX11_turn 69 = .ok (.iaload, 1) := by decide +kernel
theorem dX11_turn_70 : decode cX11_turn 70 = .ok (.iadd, 1) := by decide +kernel
theorem dX11_turn_71 : decode cX11_turn 71 = .ok (.istore 5, 2) := by decide +kernel
theorem dX11_turn_73 : decode cX11_turn 73 = .ok (.aload_n 0, 1) := by decide +kernel
theorem dX11_turn_74 : decode cX11_turn 74 = .ok (.getfield 9, 3) := by decide +kernel
theorem dX11_turn_77 : decode cX11_turn 77 = .ok (.iload_n 1, 1) := by decide +kernel
theorem dX11_turn_78 : decode cX11_turn 78 = .ok (.iconst 0, 1) := by decide +kernel
theorem dX11_turn_79 : decode cX11_turn 79 = .ok (.invokestatic 48, 3) := by decide +kernel
theorem dX11_turn_82 : decode cX11_turn 82 = .ok (.iload_n 2, 1) := by decide +kernel
theorem dX11_turn_83 : decode cX11_turn 83 = .ok (.iastore, 1) := by decide +kernel
theorem dX11_turn_84 : decode cX11_turn 84 = .ok (.aload_n 0, 1) := by decide +kernel
theorem dX11_turn_85 : decode cX11_turn 85 = .ok (.getfield 9, 3) := by decide +kernel
theorem dX11_turn_88 : decode cX11_turn 88 = .ok (.iload_n 1, 1) := by decide +kernel
theorem dX11_turn_89 : decode cX11_turn 89 = .ok (.iconst 1, 1) := by decide +kernel
theorem dX11_turn_90 : decode cX11_turn 90 = .ok (.invokestatic 48, 3) := by decide +kernel
theorem dX11_turn_93 : decode cX11_turn 93 = .ok (.iload_n 3, 1) := by decide +kernel
theorem dX11_turn_94 : decode cX11_turn 94 = .ok (.iastore, 1) := by decide +kernel
theorem dX11_turn_95 : decode cX11_turn 95 = .ok (.iload 5, 2) := by decide +kernel
theorem dX11_turn_97 : decode cX11_turn 97 = .ok (.ireturn, 1) := by decide +kernel
theorem dX11_weeks_0 : decode cX11_weeks 0 = .ok (.iload_n 1, 1) := by decide +kernel
theorem dX11_weeks_1 : decode cX11_weeks 1 = .ok (.iconst 1, 1) := by decide +kernel
theorem dX11_weeks_2 : decode cX11_weeks 2 = .ok (.if_icmp .ge 10, 3) := by decide +kernel
theorem dX11_weeks_5 : decode cX11_weeks 5 = .ok (.aload_n 0, 1) := by decide +kernel
theorem dX11_weeks_6 : decode cX11_weeks 6 = .ok (.bipush (-4), 2) := by decide +kernel
theorem dX11_weeks_8 : decode cX11_weeks 8 = .ok (.invokevirtual 36, 3) := by decide +kernel
theorem dX11_weeks_11 : decode cX11_weeks 11 = .ok (.ireturn, 1) := by decide +kernel
theorem dX11_weeks_12 : decode cX11_weeks 12 = .ok (.iload_n 1, 1) := by decide +kernel
theorem dX11_weeks_13 : decode cX11_weeks 13 = .ok (.bipush 60, 2) := by decide +kernel
theorem dX11_weeks_15 : decode cX11_weeks 15 = .ok (.if_icmp .gt 17, 3) := by decide +kernel
theorem dX11_weeks_18 : decode cX11_weeks 18 = .ok (.aload_n 0, 1) := by decide +kernel
theorem dX11_weeks_19 : decode cX11_weeks 19 = .ok (.getfield 9, 3) := by decide +kernel
theorem dX11_weeks_22 : decode cX11_weeks 22 = .ok (.iconst 1, 1) := by decide +kernel
theorem dX11_weeks_23 : decode cX11_weeks 23 = .ok (.iaload, 1) := by decide +kernel
theorem dX11_weeks_24 : decode cX11_weeks 24 = .ok (.iload_n 1, 1) := by decide +kernel
theorem dX11_weeks_25 : decode cX11_weeks 25 = .ok (.iadd, 1) := by decide +kernel
theorem dX11_weeks_26 : decode cX11_weeks 26 = .ok (.sipush 999, 3) := by decide +kernel
theorem dX11_weeks_29 : decode cX11_weeks 29 = .ok (.if_icmp .le 10, 3) := by decide +kernel
theorem dX11_weeks_32 : decode cX11_weeks 32 = .ok (.aload_n 0, 1) := by decide +kernel
theorem dX11_weeks_33 : decode cX11_weeks 33 = .ok (.bipush (-6), 2) := by decide +kernel
theorem dX11_weeks_35 : decode cX11_weeks 35 = .ok (.invokevirtual 36, 3) := by decide +kernel
theorem dX11_weeks_38 : decode cX11_weeks 38 = .ok (.ireturn, 1) := by decide +kernel
theorem dX11_weeks_39 : decode cX11_weeks 39 = .ok (.aload_n 0, 1) := by decide +kernel
theorem dX11_weeks_40 : decode cX11_weeks 40 = .ok (.getfield 9, 3) := by decide +kernel
theorem dX11_weeks_43 : decode cX11_weeks 43 = .ok (.iload_n 1, 1) := by decide +kernel
theorem dX11_weeks_44 : decode cX11_weeks 44 = .ok (.invokestatic 119, 3) := by decide +kernel
theorem dX11_weeks_47 : decode cX11_weeks 47 = .ok (.aload_n 0, 1) := by decide +kernel
theorem dX11_weeks_48 : decode cX11_weeks 48 = .ok (.getfield 9, 3) := by decide +kernel
theorem dX11_weeks_51 : decode cX11_weeks 51 = .ok (.invokestatic 136, 3) := by decide +kernel
theorem dX11_weeks_54 : decode cX11_weeks 54 = .ok (.invokestatic 139, 3) := by decide +kernel
theorem dX11_weeks_57 : decode cX11_weeks 57 = .ok (.ireturn, 1) := by decide +kernel
theorem dX11_takes_0 : decode cX11_takes 0 = .ok (.aload_n 0, 1) := by decide +kernel
theorem dX11_takes_1 : decode cX11_takes 1 = .ok (.getfield 9, 3) := by decide +kernel
theorem dX11_takes_4 : decode cX11_takes 4 = .ok (.aload_n 0, 1) := by decide +kernel
theorem dX11_takes_5 : decode cX11_takes 5 = .ok (.getfield 13, 3) := by decide +kernel
theorem dX11_takes_8 : decode cX11_takes 8 = .ok (.invokestatic 125, 3) := by decide +kernel
theorem dX11_takes_11 : decode cX11_takes 11 = .ok (.aload_n 0, 1) := by decide +kernel
theorem dX11_takes_12 : decode cX11_takes 12 = .ok (.getfield 13, 3) := by decide +kernel
theorem dX11_takes_15 : decode cX11_takes 15 = .ok (.iload_n 1, 1) := by decide +kernel
theorem dX11_takes_16 : decode cX11_takes 16 = .ok (.invokestatic 119, 3) := by decide +kernel
theorem dX11_takes_19 : decode cX11_takes 19 = .ok (.return_, 1) := by decide +kernel
theorem dX11_memoryThen_0 : decode cX11_memoryThen 0 = .ok (.aload_n 0, 1) := by decide +kernel
theorem dX11_memoryThen_1 : decode cX11_memoryThen 1 = .ok (.iload_n 1, 1) := by decide +kernel
theorem dX11_memoryThen_2 : decode cX11_memoryThen 2 = .ok (.iload_n 2, 1) := by decide +kernel
theorem dX11_memoryThen_3 : decode cX11_memoryThen 3 = .ok (.invokevirtual 109, 3) := by decide +kernel
theorem dX11_memoryThen_6 : decode cX11_memoryThen 6 = .ok (.ifCond .eq 13, 3) := by decide +kernel
theorem dX11_memoryThen_9 : decode cX11_memoryThen 9 = .ok (.iload_n 3, 1) := by decide +kernel
theorem dX11_memoryThen_10 : decode cX11_memoryThen 10 = .ok (.iconst 0, 1) := by decide +kernel
theorem dX11_memoryThen_11 : decode cX11_memoryThen 11 = .ok (.bipush 99, 2) := by decide +kernel
theorem dX11_memoryThen_13 : decode cX11_memoryThen 13 = .ok (.invokestatic 132, 3) := by decide +kernel
theorem dX11_memoryThen_16 : decode cX11_memoryThen 16 = .ok (.goto 4, 3) := by decide +kernel
theorem dX11_memoryThen_19 : decode cX11_memoryThen 19 = .ok (.iconst (-1), 1) := by decide +kernel
theorem dX11_memoryThen_20 : decode cX11_memoryThen 20 = .ok (.istore 4, 2) := by decide +kernel
theorem dX11_memoryThen_22 : decode cX11_memoryThen 22 = .ok (.iload 4, 2) := by decide +kernel
theorem dX11_memoryThen_24 : decode cX11_memoryThen 24 = .ok (.ifCond .eq 10, 3) := by decide +kernel
theorem dX11_memoryThen_27 : decode cX11_memoryThen 27 = .ok (.aload_n 0, 1) := by decide +kernel
theorem dX11_memoryThen_28 : decode cX11_memoryThen 28 = .ok (.iload 4, 2) := by decide +kernel
theorem dX11_memoryThen_30 : decode cX11_memoryThen 30 = .ok (.invokevirtual 36, 3) := by decide +kernel
theorem dX11_memoryThen_33 : decode cX11_memoryThen 33 = .ok (.ireturn, 1) := by decide +kernel
theorem dX11_memoryThen_34 : decode cX11_memoryThen 34 = .ok (.aload_n 0, 1) := by decide +kernel
theorem dX11_memoryThen_35 : decode cX11_memoryThen 35 = .ok (.iload_n 3, 1) := by decide +kernel
theorem dX11_memoryThen_36 : decode cX11_memoryThen 36 = .ok (.invokevirtual 142, 3) := by decide +kernel
theorem dX11_memoryThen_39 : decode cX11_memoryThen 39 = .ok (.aload_n 0, 1) := by decide +kernel
theorem dX11_memoryThen_40 : decode cX11_memoryThen 40 = .ok (.getfield 13, 3) := by decide +kernel
theorem dX11_memoryThen_43 : decode cX11_memoryThen 43 = .ok (.iload_n 1, 1) := by decide +kernel
theorem dX11_memoryThen_44 : decode cX11_memoryThen 44 = .ok (.iload_n 2, 1) := by decide +kernel
theorem dX11_memoryThen_45 : decode cX11_memoryThen 45 = .ok (.invokestatic 56, 3) := by decide +kernel
theorem dX11_memoryThen_48 : decode cX11_memoryThen 48 = .ok (.iaload, 1) := by decide +kernel
theorem dX11_memoryThen_49 : decode cX11_memoryThen 49 = .ok (.ireturn, 1) := by decide +kernel
theorem dX11_knownThen_0 : decode cX11_knownThen 0 = .ok (.aload_n 0, 1) := by decide +kernel
theorem dX11_knownThen_1 : decode cX11_knownThen 1 = .ok (.iload_n 1, 1) := by decide +kernel
theorem dX11_knownThen_2 : decode cX11_knownThen 2 = .ok (.invokevirtual 44, 3) := by decide +kernel
theorem dX11_knownThen_5 : decode cX11_knownThen 5 = .ok (.ifCond .eq 13, 3) := by decide +kernel
theorem dX11_knownThen_8 : decode cX11_knownThen 8 = .ok (.iload_n 2, 1) := by decide +kernel
theorem dX11_knownThen_9 : decode cX11_knownThen 9 = .ok (.iconst 0, 1) := by decide +kernel
theorem dX11_knownThen_10 : decode cX11_knownThen 10 = .ok (.bipush 99, 2) := by decide +kernel
theorem dX11_knownThen_12 : decode cX11_knownThen 12 = .ok (.invokestatic 132, 3) := by decide +kernel
theorem dX11_knownThen_15 : decode cX11_knownThen 15 = .ok (.goto 4, 3) := by decide +kernel
theorem dX11_knownThen_18 : decode cX11_knownThen 18 = .ok (.iconst (-1), 1) := by decide +kernel
theorem dX11_knownThen_19 : decode cX11_knownThen 19 = .ok (.istore_n 3, 1) := by decide +kernel
theorem dX11_knownThen_20 : decode cX11_knownThen 20 = .ok (.iload_n 3, 1) := by decide +kernel
theorem dX11_knownThen_21 : decode cX11_knownThen 21 = .ok (.ifCond .eq 9, 3) := by decide +kernel
theorem dX11_knownThen_24 : decode cX11_knownThen 24 = .ok (.aload_n 0, 1) := by decide +kernel
theorem dX11_knownThen_25 : decode cX11_knownThen 25 = .ok (.iload_n 3, 1) := by decide +kernel
theorem dX11_knownThen_26 : decode cX11_knownThen 26 = .ok (.invokevirtual 36, 3) := by decide +kernel
theorem dX11_knownThen_29 : decode cX11_knownThen 29 = .ok (.ireturn, 1) := by decide +kernel
theorem dX11_knownThen_30 : decode cX11_knownThen 30 = .ok (.aload_n 0, 1) := by decide +kernel
theorem dX11_knownThen_31 : decode cX11_knownThen 31 = .ok (.iload_n 2, 1) := by decide +kernel
theorem dX11_knownThen_32 : decode cX11_knownThen 32 = .ok (.invokevirtual 142, 3) := by decide +kernel
theorem dX11_knownThen_35 : decode cX11_knownThen 35 = .ok (.aload_n 0, 1) := by decide +kernel
theorem dX11_knownThen_36 : decode cX11_knownThen 36 = .ok (.getfield 13, 3) := by decide +kernel
theorem dX11_knownThen_39 : decode cX11_knownThen 39 = .ok (.iload_n 1, 1) := by decide +kernel
theorem dX11_knownThen_40 : decode cX11_knownThen 40 = .ok (.invokestatic 62, 3) := by decide +kernel
theorem dX11_knownThen_43 : decode cX11_knownThen 43 = .ok (.ireturn, 1) := by decide +kernel
theorem dX11_gone_0 : decode cX11_gone 0 = .ok (.iload_n 1, 1) := by decide +kernel
theorem dX11_gone_1 : decode cX11_gone 1 = .ok (.iconst 0, 1) := by decide +kernel
theorem dX11_gone_2 : decode cX11_gone 2 = .ok (.bipush 99, 2) := by decide +kernel
theorem dX11_gone_4 : decode cX11_gone 4 = .ok (.invokestatic 132, 3) := by decide +kernel
theorem dX11_gone_7 : decode cX11_gone 7 = .ok (.istore_n 2, 1) := by decide +kernel
theorem dX11_gone_8 : decode cX11_gone 8 = .ok (.iload_n 2, 1) := by decide +kernel
theorem dX11_gone_9 : decode cX11_gone 9 = .ok (.ifCond .eq 9, 3) := by decide +kernel
theorem dX11_gone_12 : decode cX11_gone 12 = .ok (.aload_n 0, 1) := by decide +kernel
theorem dX11_gone_13 : decode cX11_gone 13 = .ok (.iload_n 2, 1) := by decide +kernel
theorem dX11_gone_14 : decode cX11_gone 14 = .ok (.invokevirtual 36, 3) := by decide +kernel
theorem dX11_gone_17 : decode cX11_gone 17 = .ok (.ireturn, 1) := by decide +kernel
theorem dX11_gone_18 : decode cX11_gone 18 = .ok (.aload_n 0, 1) := by decide +kernel
theorem dX11_gone_19 : decode cX11_gone 19 = .ok (.iload_n 1, 1) := by decide +kernel
theorem dX11_gone_20 : decode cX11_gone 20 = .ok (.invokevirtual 142, 3) := by decide +kernel
theorem dX11_gone_23 : decode cX11_gone 23 = .ok (.iconst 1, 1) := by decide +kernel
theorem dX11_gone_24 : decode cX11_gone 24 = .ok (.aload_n 0, 1) := by decide +kernel
theorem dX11_gone_25 : decode cX11_gone 25 = .ok (.getfield 13, 3) := by decide +kernel
theorem dX11_gone_28 : decode cX11_gone 28 = .ok (.iconst 0, 1) := by decide +kernel
theorem dX11_gone_29 : decode cX11_gone 29 = .ok (.iaload, 1) := by decide +kernel
theorem dX11_gone_30 : decode cX11_gone 30 = .ok (.ishl, 1) := by decide +kernel
theorem dX11_gone_31 : decode cX11_gone 31 = .ok (.iconst 1, 1) := by decide +kernel
theorem dX11_gone_32 : decode cX11_gone 32 = .ok (.isub, 1) := by decide +kernel
theorem dX11_gone_33 : decode cX11_gone 33 = .ok (.aload_n 0, 1) := by decide +kernel
theorem dX11_gone_34 : decode cX11_gone 34 = .ok (.getfield 13, 3) := by decide +kernel
theorem dX11_gone_37 : decode cX11_gone 37 = .ok (.invokestatic 136, 3) := by decide +kernel
theorem dX11_gone_40 : decode cX11_gone 40 = .ok (.iconst (-1), 1) := by decide +kernel
theorem dX11_gone_41 : decode cX11_gone 41 = .ok (.ixor, 1) := by decide +kernel
theorem dX11_gone_42 : decode cX11_gone 42 = .ok (.iand, 1) := by decide +kernel
theorem dX11_gone_43 : decode cX11_gone 43 = .ok (.ireturn, 1) := by decide +kernel
theorem dX11_goesIn_0 : decode cX11_goesIn 0 = .ok (.iconst 0, 1) := by decide +kernel
theorem dX11_goesIn_1 : decode cX11_goesIn 1 = .ok (.istore_n 2, 1) := by decide +kernel
theorem dX11_goesIn_2 : decode cX11_goesIn 2 = .ok (.iload_n 2, 1) := by decide +kernel
theorem dX11_goesIn_3 : decode cX11_goesIn 3 = .ok (.bipush 99, 2) := by decide +kernel
theorem dX11_goesIn_5 : decode cX11_goesIn 5 = .ok (.if_icmp .gt 29, 3) := by decide +kernel
theorem dX11_goesIn_8 : decode cX11_goesIn 8 = .ok (.aload_n 0, 1) := by decide +kernel
theorem dX11_goesIn_9 : decode cX11_goesIn 9 = .ok (.getfield 13, 3) := by decide +kernel
theorem dX11_goesIn_12 : decode cX11_goesIn 12 = .ok (.iload_n 1, 1) := by decide +kernel
theorem dX11_goesIn_13 : decode cX11_goesIn 13 = .ok (.invokestatic 52, 3) := by decide +kernel
theorem dX11_goesIn_16 : decode cX11_goesIn 16 = .ok (.ifCond .ne 5, 3) := by decide +kernel
theorem dX11_goesIn_19 : decode cX11_goesIn 19 = .ok (.iload_n 2, 1) := by decide +kernel
theorem dX11_goesIn_20 : decode cX11_goesIn 20 = .ok (.ireturn, 1) := by decide +kernel
theorem dX11_goesIn_21 : decode cX11_goesIn 21 = .ok (.aload_n 0, 1) := by decide +kernel
theorem dX11_goesIn_22 : decode cX11_goesIn 22 = .ok (.getfield 13, 3) := by decide +kernel
theorem dX11_goesIn_25 : decode cX11_goesIn 25 = .ok (.invokestatic 80, 3) := by decide +kernel
theorem dX11_goesIn_28 : decode cX11_goesIn 28 = .ok (.iinc 2 1, 3) := by decide +kernel
theorem dX11_goesIn_31 : decode cX11_goesIn 31 = .ok (.goto (-29), 3) := by decide +kernel
theorem dX11_goesIn_34 : decode cX11_goesIn 34 = .ok (.bipush (-9), 2) := by decide +kernel
theorem dX11_goesIn_36 : decode cX11_goesIn 36 = .ok (.ireturn, 1) := by decide +kernel
theorem dX11_goesOf_0 : decode cX11_goesOf 0 = .ok (.aload_n 0, 1) := by decide +kernel
theorem dX11_goesOf_1 : decode cX11_goesOf 1 = .ok (.getfield 9, 3) := by decide +kernel
theorem dX11_goesOf_4 : decode cX11_goesOf 4 = .ok (.aload_n 0, 1) := by decide +kernel
theorem dX11_goesOf_5 : decode cX11_goesOf 5 = .ok (.getfield 13, 3) := by decide +kernel
theorem dX11_goesOf_8 : decode cX11_goesOf 8 = .ok (.invokestatic 125, 3) := by decide +kernel
theorem dX11_goesOf_11 : decode cX11_goesOf 11 = .ok (.aload_n 0, 1) := by decide +kernel
theorem dX11_goesOf_12 : decode cX11_goesOf 12 = .ok (.iload_n 1, 1) := by decide +kernel
theorem dX11_goesOf_13 : decode cX11_goesOf 13 = .ok (.invokevirtual 146, 3) := by decide +kernel
theorem dX11_goesOf_16 : decode cX11_goesOf 16 = .ok (.ireturn, 1) := by decide +kernel
theorem dX11_goes_0 : decode cX11_goes 0 = .ok (.aload_n 0, 1) := by decide +kernel
theorem dX11_goes_1 : decode cX11_goes 1 = .ok (.iload_n 1, 1) := by decide +kernel
theorem dX11_goes_2 : decode cX11_goes 2 = .ok (.invokevirtual 44, 3) := by decide +kernel
theorem dX11_goes_5 : decode cX11_goes 5 = .ok (.ifCond .eq 11, 3) := by decide +kernel
theorem dX11_goes_8 : decode cX11_goes 8 = .ok (.aload_n 0, 1) := by decide +kernel
theorem dX11_goes_9 : decode cX11_goes 9 = .ok (.iload_n 1, 1) := by decide +kernel
theorem dX11_goes_10 : decode cX11_goes 10 = .ok (.invokevirtual 149, 3) := by decide +kernel
theorem dX11_goes_13 : decode cX11_goes 13 = .ok (.goto 8, 3) := by decide +kernel
theorem dX11_goes_16 : decode cX11_goes 16 = .ok (.aload_n 0, 1) := by decide +kernel
theorem dX11_goes_17 : decode cX11_goes 17 = .ok (.iconst (-1), 1) := by decide +kernel
theorem dX11_goes_18 : decode cX11_goes 18 = .ok (.invokevirtual 36, 3) := by decide +kernel
theorem dX11_goes_21 : decode cX11_goes 21 = .ok (.ireturn, 1) := by decide +kernel
theorem dX11_emptyBehind_0 : decode cX11_emptyBehind 0 = .ok (.aload_n 0, 1) := by decide +kernel
theorem dX11_emptyBehind_1 : decode cX11_emptyBehind 1 = .ok (.getfield 9, 3) := by decide +kernel
theorem dX11_emptyBehind_4 : decode cX11_emptyBehind 4 = .ok (.aload_n 0, 1) := by decide +kernel
theorem dX11_emptyBehind_5 : decode cX11_emptyBehind 5 = .ok (.getfield 13, 3) := by decide +kernel
theorem dX11_emptyBehind_8 : decode cX11_emptyBehind 8 = .ok (.invokestatic 125, 3) := by decide +kernel
theorem dX11_emptyBehind_11 : decode cX11_emptyBehind 11 = .ok (.iconst 0, 1) := by decide +kernel
theorem dX11_emptyBehind_12 : decode cX11_emptyBehind 12 = .ok (.istore_n 1, 1) := by decide +kernel
theorem dX11_emptyBehind_13 : decode cX11_emptyBehind 13 = .ok (.iload_n 1, 1) := by decide +kernel
theorem dX11_emptyBehind_14 : decode cX11_emptyBehind 14 = .ok (.bipush 99, 2) := by decide +kernel
theorem dX11_emptyBehind_16 : decode cX11_emptyBehind 16 = .ok (.if_icmp .gt 28, 3) := by decide +kernel
theorem dX11_emptyBehind_19 : decode cX11_emptyBehind 19 = .ok (.aload_n 0, 1) := by decide +kernel
theorem dX11_emptyBehind_20 : decode cX11_emptyBehind 20 = .ok (.getfield 13, 3) := by decide +kernel
theorem dX11_emptyBehind_23 : decode cX11_emptyBehind 23 = .ok (.invokestatic 136, 3) := by decide +kernel
theorem dX11_emptyBehind_26 : decode cX11_emptyBehind 26 = .ok (.ifCond .ne 5, 3) := by decide +kernel
theorem dX11_emptyBehind_29 : decode cX11_emptyBehind 29 = .ok (.iload_n 1, 1) := by decide +kernel
theorem dX11_emptyBehind_30 : decode cX11_emptyBehind 30 = .ok (.ireturn, 1) := by decide +kernel
theorem dX11_emptyBehind_31 : decode cX11_emptyBehind 31 = .ok (.aload_n 0, 1) := by decide +kernel
theorem dX11_emptyBehind_32 : decode cX11_emptyBehind 32 = .ok (.getfield 13, 3) := by decide +kernel
theorem dX11_emptyBehind_35 : decode cX11_emptyBehind 35 = .ok (.invokestatic 80, 3) := by decide +kernel
theorem dX11_emptyBehind_38 : decode cX11_emptyBehind 38 = .ok (.iinc 1 1, 3) := by decide +kernel
theorem dX11_emptyBehind_41 : decode cX11_emptyBehind 41 = .ok (.goto (-28), 3) := by decide +kernel
theorem dX11_emptyBehind_44 : decode cX11_emptyBehind 44 = .ok (.bipush (-9), 2) := by decide +kernel
theorem dX11_emptyBehind_46 : decode cX11_emptyBehind 46 = .ok (.ireturn, 1) := by decide +kernel
theorem dX11_next_0 : decode cX11_next 0 = .ok (.iload_n 1, 1) := by decide +kernel
theorem dX11_next_1 : decode cX11_next 1 = .ok (.iconst 0, 1) := by decide +kernel
theorem dX11_next_2 : decode cX11_next 2 = .ok (.iconst 3, 1) := by decide +kernel
theorem dX11_next_3 : decode cX11_next 3 = .ok (.invokestatic 40, 3) := by decide +kernel
theorem dX11_next_6 : decode cX11_next 6 = .ok (.ifCond .ne 10, 3) := by decide +kernel
theorem dX11_next_9 : decode cX11_next 9 = .ok (.aload_n 0, 1) := by decide +kernel
theorem dX11_next_10 : decode cX11_next 10 = .ok (.bipush (-2), 2) := by decide +kernel
theorem dX11_next_12 : decode cX11_next 12 = .ok (.invokevirtual 36, 3) := by decide +kernel
theorem dX11_next_15 : decode cX11_next 15 = .ok (.ireturn, 1) := by decide +kernel
theorem dX11_next_16 : decode cX11_next 16 = .ok (.iload_n 1, 1) := by decide +kernel
theorem dX11_next_17 : decode cX11_next 17 = .ok (.iconst 2, 1) := by decide +kernel
theorem dX11_next_18 : decode cX11_next 18 = .ok (.if_icmp .ne 8, 3) := by decide +kernel
theorem dX11_next_21 : decode cX11_next 21 = .ok (.aload_n 0, 1) := by decide +kernel
theorem dX11_next_22 : decode cX11_next 22 = .ok (.invokevirtual 152, 3) := by decide +kernel
theorem dX11_next_25 : decode cX11_next 25 = .ok (.ireturn, 1) := by decide +kernel
theorem dX11_next_26 : decode cX11_next 26 = .ok (.iload_n 1, 1) := by decide +kernel
theorem dX11_next_27 : decode cX11_next 27 = .ok (.iconst 3, 1) := by decide +kernel
theorem dX11_next_28 : decode cX11_next 28 = .ok (.if_icmp .ne 16, 3) := by decide +kernel
theorem dX11_next_31 : decode cX11_next 31 = .ok (.bipush 10, 2) := by decide +kernel
theorem dX11_next_33 : decode cX11_next 33 = .ok (.aload_n 0, 1) := by decide +kernel
theorem dX11_next_34 : decode cX11_next 34 = .ok (.getfield 9, 3) := by decide +kernel
theorem dX11_next_37 : decode cX11_next 37 = .ok (.iconst 1, 1) := by decide +kernel
theorem dX11_next_38 : decode cX11_next 38 = .ok (.iaload, 1) := by decide +kernel
theorem dX11_next_39 : decode cX11_next 39 = .ok (.bipush 10, 2) := by decide +kernel
theorem dX11_next_41 : decode cX11_next 41 = .ok (.irem, 1) := by decide +kernel
theorem dX11_next_42 : decode cX11_next 42 = .ok (.isub, 1) := by decide +kernel
theorem dX11_next_43 : decode cX11_next 43 = .ok (.ireturn, 1) := by decide +kernel
theorem dX11_next_44 : decode cX11_next 44 = .ok (.bipush (-9), 2) := by decide +kernel
theorem dX11_next_46 : decode cX11_next 46 = .ok (.istore_n 2, 1) := by decide +kernel
theorem dX11_next_47 : decode cX11_next 47 = .ok (.ldc 155, 2) := by decide +kernel
theorem dX11_next_49 : decode cX11_next 49 = .ok (.istore_n 3, 1) := by decide +kernel
theorem dX11_next_50 : decode cX11_next 50 = .ok (.iconst 0, 1) := by decide +kernel
theorem dX11_next_51 : decode cX11_next 51 = .ok (.istore 4, 2) := by decide +kernel
theorem dX11_next_53 : decode cX11_next 53 = .ok (.iload 4, 2) := by decide +kernel
theorem dX11_next_55 : decode cX11_next 55 = .ok (.aload_n 0, 1) := by decide +kernel
theorem dX11_next_56 : decode cX11_next 56 = .ok (.getfield 9, 3) := by decide +kernel
theorem dX11_next_59 : decode cX11_next 59 = .ok (.iconst 0, 1) := by decide +kernel
theorem dX11_next_60 : decode cX11_next 60 = .ok (.iaload, 1) := by decide +kernel
theorem dX11_next_61 : decode cX11_next 61 = .ok (.if_icmp .ge 54, 3) := by decide +kernel
theorem dX11_next_64 : decode cX11_next 64 = .ok (.aload_n 0, 1) := by decide +kernel
theorem dX11_next_65 : decode cX11_next 65 = .ok (.getfield 9, 3) := by decide +kernel
theorem dX11_next_68 : decode cX11_next 68 = .ok (.iload 4, 2) := by decide +kernel
theorem dX11_next_70 : decode cX11_next 70 = .ok (.invokestatic 52, 3) := by decide +kernel
theorem dX11_next_73 : decode cX11_next 73 = .ok (.ifCond .eq 12, 3) := by decide +kernel
theorem dX11_next_76 : decode cX11_next 76 = .ok (.aload_n 0, 1) := by decide +kernel
theorem dX11_next_77 : decode cX11_next 77 = .ok (.iload 4, 2) := by decide +kernel
theorem dX11_next_79 : decode cX11_next 79 = .ok (.invokevirtual 149, 3) := by decide +kernel
theorem dX11_next_82 : decode cX11_next 82 = .ok (.goto 5, 3) := by decide +kernel
theorem dX11_next_85 : decode cX11_next 85 = .ok (.bipush (-9), 2) := by decide +kernel
theorem dX11_next_87 : decode cX11_next 87 = .ok (.istore 5, 2) := by decide +kernel
theorem dX11_next_89 : decode cX11_next 89 = .ok (.iload 5, 2) := by decide +kernel
theorem dX11_next_91 : decode cX11_next 91 = .ok (.ifCond .lt 18, 3) := by decide +kernel
theorem dX11_next_94 : decode cX11_next 94 = .ok (.iload 5, 2) := by decide +kernel
theorem dX11_next_96 : decode cX11_next 96 = .ok (.iload_n 3, 1) := by decide +kernel
theorem dX11_next_97 : decode cX11_next 97 = .ok (.if_icmp .lt 6, 3) := by decide +kernel
theorem dX11_next_100 : decode cX11_next 100 = .ok (.goto 9, 3) := by decide +kernel
theorem dX11_next_103 : decode cX11_next 103 = .ok (.iload 4, 2) := by decide +kernel
theorem dX11_next_105 : decode cX11_next 105 = .ok (.istore_n 2, 1) := by decide +kernel
theorem dX11_next_106 : decode cX11_next 106 = .ok (.iload 5, 2) := by decide +kernel
theorem dX11_next_108 : decode cX11_next 108 = .ok (.istore_n 3, 1) := by decide +kernel
theorem dX11_next_109 : decode cX11_next 109 = .ok (.iinc 4 1, 3) := by decide +kernel
theorem dX11_next_112 : decode cX11_next 112 = .ok (.goto (-59), 3) := by decide +kernel
theorem dX11_next_115 : decode cX11_next 115 = .ok (.iload_n 2, 1) := by decide +kernel
theorem dX11_next_116 : decode cX11_next 116 = .ok (.ifCond .lt 7, 3) := by decide +kernel
theorem dX11_next_119 : decode cX11_next 119 = .ok (.iload_n 1, 1) := by decide +kernel
theorem dX11_next_120 : decode cX11_next 120 = .ok (.ifCond .ne 7, 3) := by decide +kernel
theorem dX11_next_123 : decode cX11_next 123 = .ok (.iload_n 2, 1) := by decide +kernel
theorem dX11_next_124 : decode cX11_next 124 = .ok (.goto 4, 3) := by decide +kernel
theorem dX11_next_127 : decode cX11_next 127 = .ok (.iload_n 3, 1) := by decide +kernel
theorem dX11_next_128 : decode cX11_next 128 = .ok (.ireturn, 1) := by decide +kernel
theorem dX11_least_0 : decode cX11_least 0 = .ok (.iload_n 1, 1) := by decide +kernel
theorem dX11_least_1 : decode cX11_least 1 = .ok (.iconst 0, 1) := by decide +kernel
theorem dX11_least_2 : decode cX11_least 2 = .ok (.iconst 1, 1) := by decide +kernel
theorem dX11_least_3 : decode cX11_least 3 = .ok (.invokestatic 40, 3) := by decide +kernel
theorem dX11_least_6 : decode cX11_least 6 = .ok (.ifCond .ne 10, 3) := by decide +kernel
theorem dX11_least_9 : decode cX11_least 9 = .ok (.aload_n 0, 1) := by decide +kernel
theorem dX11_least_10 : decode cX11_least 10 = .ok (.bipush (-2), 2) := by decide +kernel
theorem dX11_least_12 : decode cX11_least 12 = .ok (.invokevirtual 36, 3) := by decide +kernel
theorem dX11_least_15 : decode cX11_least 15 = .ok (.ireturn, 1) := by decide +kernel
theorem dX11_least_16 : decode cX11_least 16 = .ok (.iload_n 1, 1) := by decide +kernel
theorem dX11_least_17 : decode cX11_least 17 = .ok (.ifCond .ne 11, 3) := by decide +kernel
theorem dX11_least_20 : decode cX11_least 20 = .ok (.aload_n 0, 1) := by decide +kernel
theorem dX11_least_21 : decode cX11_least 21 = .ok (.getfield 9, 3) := by decide +kernel
theorem dX11_least_24 : decode cX11_least 24 = .ok (.invokestatic 72, 3) := by decide +kernel
theorem dX11_least_27 : decode cX11_least 27 = .ok (.ireturn, 1) := by decide +kernel
theorem dX11_least_28 : decode cX11_least 28 = .ok (.bipush (-9), 2) := by decide +kernel
theorem dX11_least_30 : decode cX11_least 30 = .ok (.istore_n 2, 1) := by decide +kernel
theorem dX11_least_31 : decode cX11_least 31 = .ok (.iconst 0, 1) := by decide +kernel
theorem dX11_least_32 : decode cX11_least 32 = .ok (.istore_n 3, 1) := by decide +kernel
theorem dX11_least_33 : decode cX11_least 33 = .ok (.iload_n 3, 1) := by decide +kernel
theorem dX11_least_34 : decode cX11_least 34 = .ok (.aload_n 0, 1) := by decide +kernel
theorem dX11_least_35 : decode cX11_least 35 = .ok (.getfield 9, 3) := by decide +kernel
theorem dX11_least_38 : decode cX11_least 38 = .ok (.iconst 0, 1) := by decide +kernel
theorem dX11_least_39 : decode cX11_least 39 = .ok (.iaload, 1) := by decide +kernel
theorem dX11_least_40 : decode cX11_least 40 = .ok (.if_icmp .ge 45, 3) := by decide +kernel
theorem dX11_least_43 : decode cX11_least 43 = .ok (.aload_n 0, 1) := by decide +kernel
theorem dX11_least_44 : decode cX11_least 44 = .ok (.getfield 9, 3) := by decide +kernel
theorem dX11_least_47 : decode cX11_least 47 = .ok (.iload_n 3, 1) := by decide +kernel
theorem dX11_least_48 : decode cX11_least 48 = .ok (.invokestatic 52, 3) := by decide +kernel
theorem dX11_least_51 : decode cX11_least 51 = .ok (.ifCond .eq 28, 3) := by decide +kernel
theorem dX11_least_54 : decode cX11_least 54 = .ok (.iload_n 2, 1) := by decide +kernel
theorem dX11_least_55 : decode cX11_least 55 = .ok (.ifCond .lt 22, 3) := by decide +kernel
theorem dX11_least_58 : decode cX11_least 58 = .ok (.aload_n 0, 1) := by decide +kernel
theorem dX11_least_59 : decode cX11_least 59 = .ok (.getfield 9, 3) := by decide +kernel
theorem dX11_least_62 : decode cX11_least 62 = .ok (.iload_n 3, 1) := by decide +kernel
theorem dX11_least_63 : decode cX11_least 63 = .ok (.invokestatic 62, 3) := by decide +kernel
theorem dX11_least_66 : decode cX11_least 66 = .ok (.aload_n 0, 1) := by decide +kernel
theorem dX11_least_67 : decode cX11_least 67 = .ok (.getfield 9, 3) := by decide +kernel
theorem dX11_least_70 : decode cX11_least 70 = .ok (.iload_n 2, 1) := by decide +kernel
theorem dX11_least_71 : decode cX11_least 71 = .ok (.invokestatic 62, 3) := by decide +kernel
theorem dX11_least_74 : decode cX11_least 74 = .ok (.if_icmp .le 5, 3) := by decide +kernel
theorem dX11_least_77 : decode cX11_least 77 = .ok (.iload_n 3, 1) := by decide +kernel
theorem dX11_least_78 : decode cX11_least 78 = .ok (.istore_n 2, 1) := by decide +kernel
theorem dX11_least_79 : decode cX11_least 79 = .ok (.iinc 3 1, 3) := by decide +kernel
theorem dX11_least_82 : decode cX11_least 82 = .ok (.goto (-49), 3) := by decide +kernel
theorem dX11_least_85 : decode cX11_least 85 = .ok (.iload_n 2, 1) := by decide +kernel
theorem dX11_least_86 : decode cX11_least 86 = .ok (.ireturn, 1) := by decide +kernel
theorem dX11_orNever_0 : decode cX11_orNever 0 = .ok (.iload_n 0, 1) := by decide +kernel
theorem dX11_orNever_1 : decode cX11_orNever 1 = .ok (.ifCond .ge 8, 3) := by decide +kernel
theorem dX11_orNever_4 : decode cX11_orNever 4 = .ok (.bipush 100, 2) := by decide +kernel
theorem dX11_orNever_6 : decode cX11_orNever 6 = .ok (.goto 4, 3) := by decide +kernel
theorem dX11_orNever_9 : decode cX11_orNever 9 = .ok (.iload_n 0, 1) := by decide +kernel
theorem dX11_orNever_10 : decode cX11_orNever 10 = .ok (.ireturn, 1) := by decide +kernel
theorem dX11_wrongOne_0 : decode cX11_wrongOne 0 = .ok (.aload_n 0, 1) := by decide +kernel
theorem dX11_wrongOne_1 : decode cX11_wrongOne 1 = .ok (.iload_n 1, 1) := by decide +kernel
theorem dX11_wrongOne_2 : decode cX11_wrongOne 2 = .ok (.invokevirtual 44, 3) := by decide +kernel
theorem dX11_wrongOne_5 : decode cX11_wrongOne 5 = .ok (.ifCond .ne 7, 3) := by decide +kernel
theorem dX11_wrongOne_8 : decode cX11_wrongOne 8 = .ok (.iconst (-1), 1) := by decide +kernel
theorem dX11_wrongOne_9 : decode cX11_wrongOne 9 = .ok (.goto 20, 3) := by decide +kernel
theorem dX11_wrongOne_12 : decode cX11_wrongOne 12 = .ok (.aload_n 0, 1) := by decide +kernel
theorem dX11_wrongOne_13 : decode cX11_wrongOne 13 = .ok (.getfield 9, 3) := by decide +kernel
theorem dX11_wrongOne_16 : decode cX11_wrongOne 16 = .ok (.iload_n 1, 1) := by decide +kernel
theorem dX11_wrongOne_17 : decode cX11_wrongOne 17 = .ok (.invokestatic 52, 3) := by decide +kernel
theorem dX11_wrongOne_20 : decode cX11_wrongOne 20 = .ok (.ifCond .eq 7, 3) := by decide +kernel
theorem dX11_wrongOne_23 : decode cX11_wrongOne 23 = .ok (.iconst 0, 1) := by decide +kernel
theorem dX11_wrongOne_24 : decode cX11_wrongOne 24 = .ok (.goto 5, 3) := by decide +kernel
theorem dX11_wrongOne_27 : decode cX11_wrongOne 27 = .ok (.bipush (-3), 2) := by decide +kernel
theorem dX11_wrongOne_29 : decode cX11_wrongOne 29 = .ok (.ireturn, 1) := by decide +kernel
theorem dX11_speak_0 : decode cX11_speak 0 = .ok (.aload_n 0, 1) := by decide +kernel
theorem dX11_speak_1 : decode cX11_speak 1 = .ok (.iload_n 1, 1) := by decide +kernel
theorem dX11_speak_2 : decode cX11_speak 2 = .ok (.invokevirtual 156, 3) := by decide +kernel
theorem dX11_speak_5 : decode cX11_speak 5 = .ok (.istore_n 2, 1) := by decide +kernel
theorem dX11_speak_6 : decode cX11_speak 6 = .ok (.iload_n 2, 1) := by decide +kernel
theorem dX11_speak_7 : decode cX11_speak 7 = .ok (.ifCond .eq 9, 3) := by decide +kernel
theorem dX11_speak_10 : decode cX11_speak 10 = .ok (.aload_n 0, 1) := by decide +kernel
theorem dX11_speak_11 : decode cX11_speak 11 = .ok (.iload_n 2, 1) := by decide +kernel
theorem dX11_speak_12 : decode cX11_speak 12 = .ok (.invokevirtual 36, 3) := by decide +kernel
theorem dX11_speak_15 : decode cX11_speak 15 = .ok (.ireturn, 1) := by decide +kernel
theorem dX11_speak_16 : decode cX11_speak 16 = .ok (.bipush (-9), 2) := by decide +kernel
theorem dX11_speak_18 : decode cX11_speak 18 = .ok (.istore_n 3, 1) := by decide +kernel
theorem dX11_speak_19 : decode cX11_speak 19 = .ok (.aload_n 0, 1) := by decide +kernel
theorem dX11_speak_20 : decode cX11_speak 20 = .ok (.iload_n 1, 1) := by decide +kernel
theorem dX11_speak_21 : decode cX11_speak 21 = .ok (.invokevirtual 149, 3) := by decide +kernel
theorem dX11_speak_24 : decode cX11_speak 24 = .ok (.invokestatic 159, 3) := by decide +kernel
theorem dX11_speak_27 : decode cX11_speak 27 = .ok (.istore 4, 2) := by decide +kernel
theorem dX11_speak_29 : decode cX11_speak 29 = .ok (.iconst 0, 1) := by decide +kernel
theorem dX11_speak_30 : decode cX11_speak 30 = .ok (.istore 5, 2) := by decide +kernel
theorem dX11_speak_32 : decode cX11_speak 32 = .ok (.iload 5, 2) := by decide +kernel
theorem dX11_speak_34 : decode cX11_speak 34 = .ok (.aload_n 0, 1) := by decide +kernel
theorem dX11_speak_35 : decode cX11_speak 35 = .ok (.getfield 9, 3) := by decide +kernel
theorem dX11_speak_38 : decode cX11_speak 38 = .ok (.iconst 0, 1) := by decide +kernel
theorem dX11_speak_39 : decode cX11_speak 39 = .ok (.iaload, 1) := by decide +kernel
theorem dX11_speak_40 : decode cX11_speak 40 = .ok (.if_icmp .ge 78, 3) := by decide +kernel
theorem dX11_speak_43 : decode cX11_speak 43 = .ok (.iload 5, 2) := by decide +kernel
theorem dX11_speak_45 : decode cX11_speak 45 = .ok (.iload_n 1, 1) := by decide +kernel
theorem dX11_speak_46 : decode cX11_speak 46 = .ok (.if_icmp .eq 66, 3) := by decide +kernel
theorem dX11_speak_49 : decode cX11_speak 49 = .ok (.aload_n 0, 1) := by decide +kernel
theorem dX11_speak_50 : decode cX11_speak 50 = .ok (.getfield 9, 3) := by decide +kernel
theorem dX11_speak_53 : decode cX11_speak 53 = .ok (.iload 5, 2) := by decide +kernel
theorem dX11_speak_55 : decode cX11_speak 55 = .ok (.invokestatic 52, 3) := by decide +kernel
theorem dX11_speak_58 : decode cX11_speak 58 = .ok (.ifCond .ne 6, 3) := by decide +kernel
theorem dX11_speak_61 : decode cX11_speak 61 = .ok (.goto 51, 3) := by decide +kernel
theorem dX11_speak_64 : decode cX11_speak 64 = .ok (.aload_n 0, 1) := by decide +kernel
theorem dX11_speak_65 : decode cX11_speak 65 = .ok (.getfield 9, 3) := by decide +kernel
theorem dX11_speak_68 : decode cX11_speak 68 = .ok (.aload_n 0, 1) := by decide +kernel
theorem dX11_speak_69 : decode cX11_speak 69 = .ok (.getfield 13, 3) := by decide +kernel
theorem dX11_speak_72 : decode cX11_speak 72 = .ok (.invokestatic 125, 3) := by decide +kernel
theorem dX11_speak_75 : decode cX11_speak 75 = .ok (.aload_n 0, 1) := by decide +kernel
theorem dX11_speak_76 : decode cX11_speak 76 = .ok (.getfield 13, 3) := by decide +kernel
theorem dX11_speak_79 : decode cX11_speak 79 = .ok (.iload_n 1, 1) := by decide +kernel
theorem dX11_speak_80 : decode cX11_speak 80 = .ok (.iload 5, 2) := by decide +kernel
theorem dX11_speak_82 : decode cX11_speak 82 = .ok (.invokestatic 112, 3) := by decide +kernel
theorem dX11_speak_85 : decode cX11_speak 85 = .ok (.aload_n 0, 1) := by decide +kernel
theorem dX11_speak_86 : decode cX11_speak 86 = .ok (.iload_n 1, 1) := by decide +kernel
theorem dX11_speak_87 : decode cX11_speak 87 = .ok (.invokevirtual 146, 3) := by decide +kernel
theorem dX11_speak_90 : decode cX11_speak 90 = .ok (.invokestatic 159, 3) := by decide +kernel
theorem dX11_speak_93 : decode cX11_speak 93 = .ok (.istore 6, 2) := by decide +kernel
theorem dX11_speak_95 : decode cX11_speak 95 = .ok (.iload 6, 2) := by decide +kernel
theorem dX11_speak_97 : decode cX11_speak 97 = .ok (.iload 4, 2) := by decide +kernel
theorem dX11_speak_99 : decode cX11_speak 99 = .ok (.if_icmp .gt 6, 3) := by decide +kernel
theorem dX11_speak_102 : decode cX11_speak 102 = .ok (.goto 10, 3) := by decide +kernel
theorem dX11_speak_105 : decode cX11_speak 105 = .ok (.iload 5, 2) := by decide +kernel
theorem dX11_speak_107 : decode cX11_speak 107 = .ok (.istore_n 3, 1) := by decide +kernel
theorem dX11_speak_108 : decode cX11_speak 108 = .ok (.iload 6, 2) := by decide +kernel
theorem dX11_speak_110 : decode cX11_speak 110 = .ok (.istore 4, 2) := by decide +kernel
theorem dX11_speak_112 : decode cX11_speak 112 = .ok (.iinc 5 1, 3) := by decide +kernel
theorem dX11_speak_115 : decode cX11_speak 115 = .ok (.goto (-83), 3) := by decide +kernel
theorem dX11_speak_118 : decode cX11_speak 118 = .ok (.iload_n 3, 1) := by decide +kernel
theorem dX11_speak_119 : decode cX11_speak 119 = .ok (.ireturn, 1) := by decide +kernel
theorem dX11_isHereBy_0 : decode cX11_isHereBy 0 = .ok (.aload_n 0, 1) := by decide +kernel
theorem dX11_isHereBy_1 : decode cX11_isHereBy 1 = .ok (.getfield 9, 3) := by decide +kernel
theorem dX11_isHereBy_4 : decode cX11_isHereBy 4 = .ok (.aload_n 0, 1) := by decide +kernel
theorem dX11_isHereBy_5 : decode cX11_isHereBy 5 = .ok (.getfield 13, 3) := by decide +kernel
theorem dX11_isHereBy_8 : decode cX11_isHereBy 8 = .ok (.invokestatic 125, 3) := by decide +kernel
theorem dX11_isHereBy_11 : decode cX11_isHereBy 11 = .ok (.iload_n 3, 1) := by decide +kernel
theorem dX11_isHereBy_12 : decode cX11_isHereBy 12 = .ok (.istore 5, 2) := by decide +kernel
theorem dX11_isHereBy_14 : decode cX11_isHereBy 14 = .ok (.iconst 0, 1) := by decide +kernel
theorem dX11_isHereBy_15 : decode cX11_isHereBy 15 = .ok (.istore 6, 2) := by decide +kernel
theorem dX11_isHereBy_17 : decode cX11_isHereBy 17 = .ok (.iload 6, 2) := by decide +kernel
theorem dX11_isHereBy_19 : decode cX11_isHereBy 19 = .ok (.iload_n 2, 1) := by decide +kernel
theorem dX11_isHereBy_20 : decode cX11_isHereBy 20 = .ok (.if_icmp .ge 64, 3) := by decide +kernel
theorem dX11_isHereBy_23 : decode cX11_isHereBy 23 = .ok (.iload 5, 2) := by decide +kernel
theorem dX11_isHereBy_25 : decode cX11_isHereBy 25 = .ok (.bipush 8, 2) := by decide +kernel
theorem dX11_isHereBy_27 : decode cX11_isHereBy 27 = .ok (.irem, 1) := by decide +kernel
theorem dX11_isHereBy_28 : decode cX11_isHereBy 28 = .ok (.istore 7, 2) := by decide +kernel
theorem dX11_isHereBy_30 : decode cX11_isHereBy 30 = .ok (.iload 7, 2) := by decide +kernel
theorem dX11_isHereBy_32 : decode cX11_isHereBy 32 = .ok (.iload_n 1, 1) := by decide +kernel
theorem dX11_isHereBy_33 : decode cX11_isHereBy 33 = .ok (.if_icmp .eq 26, 3) := by decide +kernel
theorem dX11_isHereBy_36 : decode cX11_isHereBy 36 = .ok (.iload 7, 2) := by decide +kernel
theorem dX11_isHereBy_38 : decode cX11_isHereBy 38 = .ok (.aload_n 0, 1) := by decide +kernel
theorem dX11_isHereBy_39 : decode cX11_isHereBy 39 = .ok (.getfield 9, 3) := by decide +kernel
theorem dX11_isHereBy_42 : decode cX11_isHereBy 42 = .ok (.iconst 0, 1) := by decide +kernel
theorem dX11_isHereBy_43 : decode cX11_isHereBy 43 = .ok (.iaload, 1) := by decide +kernel
theorem dX11_isHereBy_44 : decode cX11_isHereBy 44 = .ok (.if_icmp .ge 15, 3) := by decide +kernel
theorem dX11_isHereBy_47 : decode cX11_isHereBy 47 = .ok (.aload_n 0, 1) := by decide +kernel
theorem dX11_isHereBy_48 : decode cX11_isHereBy 48 = .ok (.getfield 9, 3) := by decide +kernel
theorem dX11_isHereBy_51 : decode cX11_isHereBy 51 = .ok (.iload 7, 2) := by decide +kernel
theorem dX11_isHereBy_53 : decode cX11_isHereBy 53 = .ok (.invokestatic 52, 3) := by decide +kernel
theorem dX11_isHereBy_56 : decode cX11_isHereBy 56 = .ok (.ifCond .ne 5, 3) := by decide +kernel
theorem dX11_isHereBy_59 : decode cX11_isHereBy 59 = .ok (.iconst 0, 1) := by decide +kernel
theorem dX11_isHereBy_60 : decode cX11_isHereBy 60 = .ok (.ireturn, 1) := by decide +kernel
theorem dX11_isHereBy_61 : decode cX11_isHereBy 61 = .ok (.aload_n 0, 1) := by decide +kernel
theorem dX11_isHereBy_62 : decode cX11_isHereBy 62 = .ok (.getfield 13, 3) := by decide +kernel
theorem dX11_isHereBy_65 : decode cX11_isHereBy 65 = .ok (.iload_n 1, 1) := by decide +kernel
theorem dX11_isHereBy_66 : decode cX11_isHereBy 66 = .ok (.iload 7, 2) := by decide +kernel
theorem dX11_isHereBy_68 : decode cX11_isHereBy 68 = .ok (.invokestatic 112, 3) := by decide +kernel
theorem dX11_isHereBy_71 : decode cX11_isHereBy 71 = .ok (.iload 5, 2) := by decide +kernel
theorem dX11_isHereBy_73 : decode cX11_isHereBy 73 = .ok (.bipush 8, 2) := by decide +kernel
theorem dX11_isHereBy_75 : decode cX11_isHereBy 75 = .ok (.idiv, 1) := by decide +kernel
theorem dX11_isHereBy_76 : decode cX11_isHereBy 76 = .ok (.istore 5, 2) := by decide +kernel
theorem dX11_isHereBy_78 : decode cX11_isHereBy 78 = .ok (.iinc 6 1, 3) := by decide +kernel
theorem dX11_isHereBy_81 : decode cX11_isHereBy 81 = .ok (.goto (-64), 3) := by decide +kernel
theorem dX11_isHereBy_84 : decode cX11_isHereBy 84 = .ok (.aload_n 0, 1) := by decide +kernel
theorem dX11_isHereBy_85 : decode cX11_isHereBy 85 = .ok (.getfield 13, 3) := by decide +kernel
theorem dX11_isHereBy_88 : decode cX11_isHereBy 88 = .ok (.iload 4, 2) := by decide +kernel
theorem dX11_isHereBy_90 : decode cX11_isHereBy 90 = .ok (.invokestatic 119, 3) := by decide +kernel
theorem dX11_isHereBy_93 : decode cX11_isHereBy 93 = .ok (.aload_n 0, 1) := by decide +kernel
theorem dX11_isHereBy_94 : decode cX11_isHereBy 94 = .ok (.getfield 13, 3) := by decide +kernel
theorem dX11_isHereBy_97 : decode cX11_isHereBy 97 = .ok (.iload_n 1, 1) := by decide +kernel
theorem dX11_isHereBy_98 : decode cX11_isHereBy 98 = .ok (.invokestatic 52, 3) := by decide +kernel
theorem dX11_isHereBy_101 : decode cX11_isHereBy 101 = .ok (.ireturn, 1) := by decide +kernel
theorem dX11_fewest_0 : decode cX11_fewest 0 = .ok (.aload_n 0, 1) := by decide +kernel
theorem dX11_fewest_1 : decode cX11_fewest 1 = .ok (.iload_n 1, 1) := by decide +kernel
theorem dX11_fewest_2 : decode cX11_fewest 2 = .ok (.invokevirtual 44, 3) := by decide +kernel
theorem dX11_fewest_5 : decode cX11_fewest 5 = .ok (.ifCond .eq 13, 3) := by decide +kernel
theorem dX11_fewest_8 : decode cX11_fewest 8 = .ok (.iload_n 2, 1) := by decide +kernel
theorem dX11_fewest_9 : decode cX11_fewest 9 = .ok (.iconst 0, 1) := by decide +kernel
theorem dX11_fewest_10 : decode cX11_fewest 10 = .ok (.bipush 60, 2) := by decide +kernel
theorem dX11_fewest_12 : decode cX11_fewest 12 = .ok (.invokestatic 132, 3) := by decide +kernel
theorem dX11_fewest_15 : decode cX11_fewest 15 = .ok (.goto 4, 3) := by decide +kernel
theorem dX11_fewest_18 : decode cX11_fewest 18 = .ok (.iconst (-1), 1) := by decide +kernel
theorem dX11_fewest_19 : decode cX11_fewest 19 = .ok (.istore_n 3, 1) := by decide +kernel
theorem dX11_fewest_20 : decode cX11_fewest 20 = .ok (.iload_n 3, 1) := by decide +kernel
theorem dX11_fewest_21 : decode cX11_fewest 21 = .ok (.ifCond .ne 17, 3) := by decide +kernel
theorem dX11_fewest_24 : decode cX11_fewest 24 = .ok (.aload_n 0, 1) := by decide +kernel
theorem dX11_fewest_25 : decode cX11_fewest 25 = .ok (.getfield 9, 3) := by decide +kernel
theorem dX11_fewest_28 : decode cX11_fewest 28 = .ok (.iload_n 1, 1) := by decide +kernel
theorem dX11_fewest_29 : decode cX11_fewest 29 = .ok (.invokestatic 52, 3) := by decide +kernel
theorem dX11_fewest_32 : decode cX11_fewest 32 = .ok (.ifCond .ne 6, 3) := by decide +kernel
theorem dX11_fewest_35 : decode cX11_fewest 35 = .ok (.bipush (-3), 2) := by decide +kernel
theorem dX11_fewest_37 : decode cX11_fewest 37 = .ok (.istore_n 3, 1) := by decide +kernel
theorem dX11_fewest_38 : decode cX11_fewest 38 = .ok (.iload_n 3, 1) := by decide +kernel
theorem dX11_fewest_39 : decode cX11_fewest 39 = .ok (.ifCond .eq 9, 3) := by decide +kernel
theorem dX11_fewest_42 : decode cX11_fewest 42 = .ok (.aload_n 0, 1) := by decide +kernel
theorem dX11_fewest_43 : decode cX11_fewest 43 = .ok (.iload_n 3, 1) := by decide +kernel
theorem dX11_fewest_44 : decode cX11_fewest 44 = .ok (.invokevirtual 36, 3) := by decide +kernel
theorem dX11_fewest_47 : decode cX11_fewest 47 = .ok (.ireturn, 1) := by decide +kernel
theorem dX11_fewest_48 : decode cX11_fewest 48 = .ok (.iconst 1, 1) := by decide +kernel
theorem dX11_fewest_49 : decode cX11_fewest 49 = .ok (.istore 4, 2) := by decide +kernel
theorem dX11_fewest_51 : decode cX11_fewest 51 = .ok (.iconst 0, 1) := by decide +kernel
theorem dX11_fewest_52 : decode cX11_fewest 52 = .ok (.istore 5, 2) := by decide +kernel
theorem dX11_fewest_54 : decode cX11_fewest 54 = .ok (.iload 5, 2) := by decide +kernel
theorem dX11_fewest_56 : decode cX11_fewest 56 = .ok (.iconst 3, 1) := by decide +kernel
theorem dX11_fewest_57 : decode cX11_fewest 57 = .ok (.if_icmp .gt 48, 3) := by decide +kernel
theorem dX11_fewest_60 : decode cX11_fewest 60 = .ok (.iconst 0, 1) := by decide +kernel
theorem dX11_fewest_61 : decode cX11_fewest 61 = .ok (.istore 6, 2) := by decide +kernel
theorem dX11_fewest_63 : decode cX11_fewest 63 = .ok (.iload 6, 2) := by decide +kernel
theorem dX11_fewest_65 : decode cX11_fewest 65 = .ok (.iload 4, 2) := by decide +kernel
theorem dX11_fewest_67 : decode cX11_fewest 67 = .ok (.if_icmp .ge 25, 3) := by decide +kernel
theorem dX11_fewest_70 : decode cX11_fewest 70 = .ok (.aload_n 0, 1) := by decide +kernel
theorem dX11_fewest_71 : decode cX11_fewest 71 = .ok (.iload_n 1, 1) := by decide +kernel
theorem dX11_fewest_72 : decode cX11_fewest 72 = .ok (.iload 5, 2) := by decide +kernel
theorem dX11_fewest_74 : decode cX11_fewest 74 = .ok (.iload 6, 2) := by decide +kernel
theorem dX11_fewest_76 : decode cX11_fewest 76 = .ok (.iload_n 2, 1) := by decide +kernel
theorem dX11_fewest_77 : decode cX11_fewest 77 = .ok (.invokevirtual 162, 3) := by decide +kernel
theorem dX11_fewest_80 : decode cX11_fewest 80 = .ok (.ifCond .eq 6, 3) := by decide +kernel
theorem dX11_fewest_83 : decode cX11_fewest 83 = .ok (.iload 5, 2) := by decide +kernel
theorem dX11_fewest_85 : decode cX11_fewest 85 = .ok (.ireturn, 1) := by decide +kernel
theorem dX11_fewest_86 : decode cX11_fewest 86 = .ok (.iinc 6 1, 3) := by decide +kernel
theorem dX11_fewest_89 : decode cX11_fewest 89 = .ok (.goto (-26), 3) := by decide +kernel
theorem dX11_fewest_92 : decode cX11_fewest 92 = .ok (.iload 4, 2) := by decide +kernel
theorem dX11_fewest_94 : decode cX11_fewest 94 = .ok (.bipush 8, 2) := by decide +kernel
theorem dX11_fewest_96 : decode cX11_fewest 96 = .ok (.imul, 1) := by decide +kernel
theorem dX11_fewest_97 : decode cX11_fewest 97 = .ok (.istore 4, 2) := by decide +kernel
theorem dX11_fewest_99 : decode cX11_fewest 99 = .ok (.iinc 5 1, 3) := by decide +kernel
theorem dX11_fewest_102 : decode cX11_fewest 102 = .ok (.goto (-48), 3) := by decide +kernel
theorem dX11_fewest_105 : decode cX11_fewest 105 = .ok (.bipush (-9), 2) := by decide +kernel
theorem dX11_fewest_107 : decode cX11_fewest 107 = .ok (.ireturn, 1) := by decide +kernel
theorem dX11_save_0 : decode cX11_save 0 = .ok (.iload_n 1, 1) := by decide +kernel
theorem dX11_save_1 : decode cX11_save 1 = .ok (.iconst 0, 1) := by decide +kernel
theorem dX11_save_2 : decode cX11_save 2 = .ok (.bipush 60, 2) := by decide +kernel
theorem dX11_save_4 : decode cX11_save 4 = .ok (.invokestatic 132, 3) := by decide +kernel
theorem dX11_save_7 : decode cX11_save 7 = .ok (.istore_n 2, 1) := by decide +kernel
theorem dX11_save_8 : decode cX11_save 8 = .ok (.iload_n 2, 1) := by decide +kernel
theorem dX11_save_9 : decode cX11_save 9 = .ok (.ifCond .eq 9, 3) := by decide +kernel
theorem dX11_save_12 : decode cX11_save 12 = .ok (.aload_n 0, 1) := by decide +kernel
theorem dX11_save_13 : decode cX11_save 13 = .ok (.iload_n 2, 1) := by decide +kernel
theorem dX11_save_14 : decode cX11_save 14 = .ok (.invokevirtual 36, 3) := by decide +kernel
theorem dX11_save_17 : decode cX11_save 17 = .ok (.ireturn, 1) := by decide +kernel
theorem dX11_save_18 : decode cX11_save 18 = .ok (.aload_n 0, 1) := by decide +kernel
theorem dX11_save_19 : decode cX11_save 19 = .ok (.iload_n 1, 1) := by decide +kernel
theorem dX11_save_20 : decode cX11_save 20 = .ok (.invokevirtual 142, 3) := by decide +kernel
theorem dX11_save_23 : decode cX11_save 23 = .ok (.aload_n 0, 1) := by decide +kernel
theorem dX11_save_24 : decode cX11_save 24 = .ok (.getfield 13, 3) := by decide +kernel
theorem dX11_save_27 : decode cX11_save 27 = .ok (.invokestatic 136, 3) := by decide +kernel
theorem dX11_save_30 : decode cX11_save 30 = .ok (.invokestatic 139, 3) := by decide +kernel
theorem dX11_save_33 : decode cX11_save 33 = .ok (.istore_n 3, 1) := by decide +kernel
theorem dX11_save_34 : decode cX11_save 34 = .ok (.bipush (-9), 2) := by decide +kernel
theorem dX11_save_36 : decode cX11_save 36 = .ok (.istore 4, 2) := by decide +kernel
theorem dX11_save_38 : decode cX11_save 38 = .ok (.iconst 0, 1) := by decide +kernel
theorem dX11_save_39 : decode cX11_save 39 = .ok (.istore 5, 2) := by decide +kernel
theorem dX11_save_41 : decode cX11_save 41 = .ok (.iload 5, 2) := by decide +kernel
theorem dX11_save_43 : decode cX11_save 43 = .ok (.aload_n 0, 1) := by decide +kernel
theorem dX11_save_44 : decode cX11_save 44 = .ok (.getfield 9, 3) := by decide +kernel
theorem dX11_save_47 : decode cX11_save 47 = .ok (.iconst 0, 1) := by decide +kernel
theorem dX11_save_48 : decode cX11_save 48 = .ok (.iaload, 1) := by decide +kernel
theorem dX11_save_49 : decode cX11_save 49 = .ok (.if_icmp .ge 83, 3) := by decide +kernel
theorem dX11_save_52 : decode cX11_save 52 = .ok (.aload_n 0, 1) := by decide +kernel
theorem dX11_save_53 : decode cX11_save 53 = .ok (.getfield 9, 3) := by decide +kernel
theorem dX11_save_56 : decode cX11_save 56 = .ok (.iload 5, 2) := by decide +kernel
theorem dX11_save_58 : decode cX11_save 58 = .ok (.invokestatic 52, 3) := by decide +kernel
theorem dX11_save_61 : decode cX11_save 61 = .ok (.ifCond .ne 6, 3) := by decide +kernel
theorem dX11_save_64 : decode cX11_save 64 = .ok (.goto 62, 3) := by decide +kernel
theorem dX11_save_67 : decode cX11_save 67 = .ok (.aload_n 0, 1) := by decide +kernel
theorem dX11_save_68 : decode cX11_save 68 = .ok (.getfield 9, 3) := by decide +kernel
theorem dX11_save_71 : decode cX11_save 71 = .ok (.aload_n 0, 1) := by decide +kernel
theorem dX11_save_72 : decode cX11_save 72 = .ok (.getfield 13, 3) := by decide +kernel
theorem dX11_save_75 : decode cX11_save 75 = .ok (.invokestatic 125, 3) := by decide +kernel
theorem dX11_save_78 : decode cX11_save 78 = .ok (.aload_n 0, 1) := by decide +kernel
theorem dX11_save_79 : decode cX11_save 79 = .ok (.getfield 13, 3) := by decide +kernel
theorem dX11_save_82 : decode cX11_save 82 = .ok (.iload 5, 2) := by decide +kernel
theorem dX11_save_84 : decode cX11_save 84 = .ok (.iconst 0, 1) := by decide +kernel
theorem dX11_save_85 : decode cX11_save 85 = .ok (.invokestatic 48, 3) := by decide +kernel
theorem dX11_save_88 : decode cX11_save 88 = .ok (.iconst 4, 1) := by decide +kernel
theorem dX11_save_89 : decode cX11_save 89 = .ok (.iastore, 1) := by decide +kernel
theorem dX11_save_90 : decode cX11_save 90 = .ok (.aload_n 0, 1) := by decide +kernel
theorem dX11_save_91 : decode cX11_save 91 = .ok (.getfield 13, 3) := by decide +kernel
theorem dX11_save_94 : decode cX11_save 94 = .ok (.iload_n 1, 1) := by decide +kernel
theorem dX11_save_95 : decode cX11_save 95 = .ok (.invokestatic 119, 3) := by decide +kernel
theorem dX11_save_98 : decode cX11_save 98 = .ok (.aload_n 0, 1) := by decide +kernel
theorem dX11_save_99 : decode cX11_save 99 = .ok (.getfield 13, 3) := by decide +kernel
theorem dX11_save_102 : decode cX11_save 102 = .ok (.invokestatic 136, 3) := by decide +kernel
theorem dX11_save_105 : decode cX11_save 105 = .ok (.invokestatic 139, 3) := by decide +kernel
theorem dX11_save_108 : decode cX11_save 108 = .ok (.istore 6, 2) := by decide +kernel
theorem dX11_save_110 : decode cX11_save 110 = .ok (.iload 6, 2) := by decide +kernel
theorem dX11_save_112 : decode cX11_save 112 = .ok (.iload_n 3, 1) := by decide +kernel
theorem dX11_save_113 : decode cX11_save 113 = .ok (.if_icmp .gt 6, 3) := by decide +kernel
theorem dX11_save_116 : decode cX11_save 116 = .ok (.goto 10, 3) := by decide +kernel
theorem dX11_save_119 : decode cX11_save 119 = .ok (.iload 5, 2) := by decide +kernel
theorem dX11_save_121 : decode cX11_save 121 = .ok (.istore 4, 2) := by decide +kernel
theorem dX11_save_123 : decode cX11_save 123 = .ok (.iload 6, 2) := by decide +kernel
theorem dX11_save_125 : decode cX11_save 125 = .ok (.istore_n 3, 1) := by decide +kernel
theorem dX11_save_126 : decode cX11_save 126 = .ok (.iinc 5 1, 3) := by decide +kernel
theorem dX11_save_129 : decode cX11_save 129 = .ok (.goto (-88), 3) := by decide +kernel
theorem dX11_save_132 : decode cX11_save 132 = .ok (.iload 4, 2) := by decide +kernel
theorem dX11_save_134 : decode cX11_save 134 = .ok (.ireturn, 1) := by decide +kernel
theorem dX11_bring_0 : decode cX11_bring 0 = .ok (.iload_n 1, 1) := by decide +kernel
theorem dX11_bring_1 : decode cX11_bring 1 = .ok (.iconst 0, 1) := by decide +kernel
theorem dX11_bring_2 : decode cX11_bring 2 = .ok (.iconst 1, 1) := by decide +kernel
theorem dX11_bring_3 : decode cX11_bring 3 = .ok (.invokestatic 40, 3) := by decide +kernel
theorem dX11_bring_6 : decode cX11_bring 6 = .ok (.ifCond .ne 10, 3) := by decide +kernel
theorem dX11_bring_9 : decode cX11_bring 9 = .ok (.aload_n 0, 1) := by decide +kernel
theorem dX11_bring_10 : decode cX11_bring 10 = .ok (.bipush (-2), 2) := by decide +kernel
theorem dX11_bring_12 : decode cX11_bring 12 = .ok (.invokevirtual 36, 3) := by decide +kernel
theorem dX11_bring_15 : decode cX11_bring 15 = .ok (.ireturn, 1) := by decide +kernel
theorem dX11_bring_16 : decode cX11_bring 16 = .ok (.bipush (-9), 2) := by decide +kernel
theorem dX11_bring_18 : decode cX11_bring 18 = .ok (.istore_n 2, 1) := by decide +kernel
theorem dX11_bring_19 : decode cX11_bring 19 = .ok (.iconst (-1), 1) := by decide +kernel
theorem dX11_bring_20 : decode cX11_bring 20 = .ok (.istore_n 3, 1) := by decide +kernel
theorem dX11_bring_21 : decode cX11_bring 21 = .ok (.iconst 0, 1) := by decide +kernel
theorem dX11_bring_22 : decode cX11_bring 22 = .ok (.istore 4, 2) := by decide +kernel
theorem dX11_bring_24 : decode cX11_bring 24 = .ok (.iload 4, 2) := by decide +kernel
theorem dX11_bring_26 : decode cX11_bring 26 = .ok (.aload_n 0, 1) := by decide +kernel
theorem dX11_bring_27 : decode cX11_bring 27 = .ok (.getfield 9, 3) := by decide +kernel
theorem dX11_bring_30 : decode cX11_bring 30 = .ok (.iconst 0, 1) := by decide +kernel
theorem dX11_bring_31 : decode cX11_bring 31 = .ok (.iaload, 1) := by decide +kernel
theorem dX11_bring_32 : decode cX11_bring 32 = .ok (.if_icmp .ge 81, 3) := by decide +kernel
theorem dX11_bring_35 : decode cX11_bring 35 = .ok (.aload_n 0, 1) := by decide +kernel
theorem dX11_bring_36 : decode cX11_bring 36 = .ok (.getfield 9, 3) := by decide +kernel
theorem dX11_bring_39 : decode cX11_bring 39 = .ok (.iload 4, 2) := by decide +kernel
theorem dX11_bring_41 : decode cX11_bring 41 = .ok (.invokestatic 52, 3) := by decide +kernel
theorem dX11_bring_44 : decode cX11_bring 44 = .ok (.ifCond .eq 6, 3) := by decide +kernel
theorem dX11_bring_47 : decode cX11_bring 47 = .ok (.goto 60, 3) := by decide +kernel
theorem dX11_bring_50 : decode cX11_bring 50 = .ok (.aload_n 0, 1) := by decide +kernel
theorem dX11_bring_51 : decode cX11_bring 51 = .ok (.getfield 9, 3) := by decide +kernel
theorem dX11_bring_54 : decode cX11_bring 54 = .ok (.aload_n 0, 1) := by decide +kernel
theorem dX11_bring_55 : decode cX11_bring 55 = .ok (.getfield 13, 3) := by decide +kernel
theorem dX11_bring_58 : decode cX11_bring 58 = .ok (.invokestatic 125, 3) := by decide +kernel
theorem dX11_bring_61 : decode cX11_bring 61 = .ok (.aload_n 0, 1) := by decide +kernel
theorem dX11_bring_62 : decode cX11_bring 62 = .ok (.getfield 13, 3) := by decide +kernel
theorem dX11_bring_65 : decode cX11_bring 65 = .ok (.iload 4, 2) := by decide +kernel
theorem dX11_bring_67 : decode cX11_bring 67 = .ok (.invokestatic 116, 3) := by decide +kernel
theorem dX11_bring_70 : decode cX11_bring 70 = .ok (.aload_n 0, 1) := by decide +kernel
theorem dX11_bring_71 : decode cX11_bring 71 = .ok (.iload 4, 2) := by decide +kernel
theorem dX11_bring_73 : decode cX11_bring 73 = .ok (.invokevirtual 146, 3) := by decide +kernel
theorem dX11_bring_76 : decode cX11_bring 76 = .ok (.istore 5, 2) := by decide +kernel
theorem dX11_bring_78 : decode cX11_bring 78 = .ok (.iload 5, 2) := by decide +kernel
theorem dX11_bring_80 : decode cX11_bring 80 = .ok (.ifCond .ge 8, 3) := by decide +kernel
theorem dX11_bring_83 : decode cX11_bring 83 = .ok (.bipush 99, 2) := by decide +kernel
theorem dX11_bring_85 : decode cX11_bring 85 = .ok (.goto 5, 3) := by decide +kernel
theorem dX11_bring_88 : decode cX11_bring 88 = .ok (.iload 5, 2) := by decide +kernel
theorem dX11_bring_90 : decode cX11_bring 90 = .ok (.istore 5, 2) := by decide +kernel
theorem dX11_bring_92 : decode cX11_bring 92 = .ok (.iload 5, 2) := by decide +kernel
theorem dX11_bring_94 : decode cX11_bring 94 = .ok (.iload_n 3, 1) := by decide +kernel
theorem dX11_bring_95 : decode cX11_bring 95 = .ok (.if_icmp .gt 6, 3) := by decide +kernel
theorem dX11_bring_98 : decode cX11_bring 98 = .ok (.goto 9, 3) := by decide +kernel
theorem dX11_bring_101 : decode cX11_bring 101 = .ok (.iload 4, 2) := by decide +kernel
theorem dX11_bring_103 : decode cX11_bring 103 = .ok (.istore_n 2, 1) := by decide +kernel
theorem dX11_bring_104 : decode cX11_bring 104 = .ok (.iload 5, 2) := by decide +kernel
theorem dX11_bring_106 : decode cX11_bring 106 = .ok (.istore_n 3, 1) := by decide +kernel
theorem dX11_bring_107 : decode cX11_bring 107 = .ok (.iinc 4 1, 3) := by decide +kernel
theorem dX11_bring_110 : decode cX11_bring 110 = .ok (.goto (-86), 3) := by decide +kernel
theorem dX11_bring_113 : decode cX11_bring 113 = .ok (.iload_n 2, 1) := by decide +kernel
theorem dX11_bring_114 : decode cX11_bring 114 = .ok (.ifCond .lt 7, 3) := by decide +kernel
theorem dX11_bring_117 : decode cX11_bring 117 = .ok (.iload_n 1, 1) := by decide +kernel
theorem dX11_bring_118 : decode cX11_bring 118 = .ok (.ifCond .ne 7, 3) := by decide +kernel
theorem dX11_bring_121 : decode cX11_bring 121 = .ok (.iload_n 2, 1) := by decide +kernel
theorem dX11_bring_122 : decode cX11_bring 122 = .ok (.goto 4, 3) := by decide +kernel
theorem dX11_bring_125 : decode cX11_bring 125 = .ok (.iload_n 3, 1) := by decide +kernel
theorem dX11_bring_126 : decode cX11_bring 126 = .ok (.ireturn, 1) := by decide +kernel
theorem dX11_areLeagued_0 : decode cX11_areLeagued 0 = .ok (.aload_n 0, 1) := by decide +kernel
theorem dX11_areLeagued_1 : decode cX11_areLeagued 1 = .ok (.getfield 9, 3) := by decide +kernel
theorem dX11_areLeagued_4 : decode cX11_areLeagued 4 = .ok (.iload_n 1, 1) := by decide +kernel
theorem dX11_areLeagued_5 : decode cX11_areLeagued 5 = .ok (.invokestatic 52, 3) := by decide +kernel
theorem dX11_areLeagued_8 : decode cX11_areLeagued 8 = .ok (.ifCond .eq 48, 3) := by decide +kernel
theorem dX11_areLeagued_11 : decode cX11_areLeagued 11 = .ok (.aload_n 0, 1) := by decide +kernel
theorem dX11_areLeagued_12 : decode cX11_areLeagued 12 = .ok (.getfield 9, 3) := by decide +kernel
theorem dX11_areLeagued_15 : decode cX11_areLeagued 15 = .ok (.iload_n 2, 1) := by decide +kernel
theorem dX11_areLeagued_16 : decode cX11_areLeagued 16 = .ok (.invokestatic 52, 3) := by decide +kernel
theorem dX11_areLeagued_19 : decode cX11_areLeagued 19 = .ok (.ifCond .eq 37, 3) := by decide +kernel
theorem dX11_areLeagued_22 : decode cX11_areLeagued 22 = .ok (.aload_n 0, 1) := by decide +kernel
theorem dX11_areLeagued_23 : decode cX11_areLeagued 23 = .ok (.getfield 9, 3) := by decide +kernel
theorem dX11_areLeagued_26 : decode cX11_areLeagued 26 = .ok (.iload_n 1, 1) := by decide +kernel
theorem dX11_areLeagued_27 : decode cX11_areLeagued 27 = .ok (.iload_n 2, 1) := by decide +kernel
theorem dX11_areLeagued_28 : decode cX11_areLeagued 28 = .ok (.invokestatic 56, 3) := by decide +kernel
theorem dX11_areLeagued_31 : decode cX11_areLeagued 31 = .ok (.iaload, 1) := by decide +kernel
theorem dX11_areLeagued_32 : decode cX11_areLeagued 32 = .ok (.bipush 50, 2) := by decide +kernel
theorem dX11_areLeagued_34 : decode cX11_areLeagued 34 = .ok (.if_icmp .lt 22, 3) := by decide +kernel
theorem dX11_areLeagued_37 : decode cX11_areLeagued 37 = .ok (.aload_n 0, 1) := by decide +kernel
theorem dX11_areLeagued_38 : decode cX11_areLeagued 38 = .ok (.getfield 9, 3) := by decide +kernel
theorem dX11_areLeagued_41 : decode cX11_areLeagued 41 = .ok (.iload_n 2, 1) := by decide +kernel
theorem dX11_areLeagued_42 : decode cX11_areLeagued 42 = .ok (.iload_n 1, 1) := by decide +kernel
theorem dX11_areLeagued_43 : decode cX11_areLeagued 43 = .ok (.invokestatic 56, 3) := by decide +kernel
theorem dX11_areLeagued_46 : decode cX11_areLeagued 46 = .ok (.iaload, 1) := by decide +kernel
theorem dX11_areLeagued_47 : decode cX11_areLeagued 47 = .ok (.bipush 50, 2) := by decide +kernel
theorem dX11_areLeagued_49 : decode cX11_areLeagued 49 = .ok (.if_icmp .lt 7, 3) := by decide +kernel
theorem dX11_areLeagued_52 : decode cX11_areLeagued 52 = .ok (.iconst 1, 1) := by decide +kernel
theorem dX11_areLeagued_53 : decode cX11_areLeagued 53 = .ok (.goto 4, 3) := by decide +kernel
theorem dX11_areLeagued_56 : decode cX11_areLeagued 56 = .ok (.iconst 0, 1) := by decide +kernel
theorem dX11_areLeagued_57 : decode cX11_areLeagued 57 = .ok (.ireturn, 1) := by decide +kernel
theorem dX11_league_0 : decode cX11_league 0 = .ok (.aload_n 0, 1) := by decide +kernel
theorem dX11_league_1 : decode cX11_league 1 = .ok (.iload_n 1, 1) := by decide +kernel
theorem dX11_league_2 : decode cX11_league 2 = .ok (.invokevirtual 156, 3) := by decide +kernel
theorem dX11_league_5 : decode cX11_league 5 = .ok (.istore_n 2, 1) := by decide +kernel
theorem dX11_league_6 : decode cX11_league 6 = .ok (.iload_n 2, 1) := by decide +kernel
theorem dX11_league_7 : decode cX11_league 7 = .ok (.ifCond .eq 9, 3) := by decide +kernel
theorem dX11_league_10 : decode cX11_league 10 = .ok (.aload_n 0, 1) := by decide +kernel
theorem dX11_league_11 : decode cX11_league 11 = .ok (.iload_n 2, 1) := by decide +kernel
theorem dX11_league_12 : decode cX11_league 12 = .ok (.invokevirtual 36, 3) := by decide +kernel
theorem dX11_league_15 : decode cX11_league 15 = .ok (.ireturn, 1) := by decide +kernel
theorem dX11_league_16 : decode cX11_league 16 = .ok (.iconst 0, 1) := by decide +kernel
theorem dX11_league_17 : decode cX11_league 17 = .ok (.istore_n 3, 1) := by decide +kernel
theorem dX11_league_18 : decode cX11_league 18 = .ok (.iconst 0, 1) := by decide +kernel
theorem dX11_league_19 : decode cX11_league 19 = .ok (.istore 4, 2) := by decide +kernel
theorem dX11_league_21 : decode cX11_league 21 = .ok (.iload 4, 2) := by decide +kernel
theorem dX11_league_23 : decode cX11_league 23 = .ok (.aload_n 0, 1) := by decide +kernel
theorem dX11_league_24 : decode cX11_league 24 = .ok (.getfield 9, 3) := by decide +kernel
theorem dX11_league_27 : decode cX11_league 27 = .ok (.iconst 0, 1) := by decide +kernel
theorem dX11_league_28 : decode cX11_league 28 = .ok (.iaload, 1) := by decide +kernel
theorem dX11_league_29 : decode cX11_league 29 = .ok (.if_icmp .ge 36, 3) := by decide +kernel
theorem dX11_league_32 : decode cX11_league 32 = .ok (.iload_n 3, 1) := by decide +kernel
theorem dX11_league_33 : decode cX11_league 33 = .ok (.iload 4, 2) := by decide +kernel
theorem dX11_league_35 : decode cX11_league 35 = .ok (.iload_n 1, 1) := by decide +kernel
theorem dX11_league_36 : decode cX11_league 36 = .ok (.if_icmp .eq 20, 3) := by decide +kernel
theorem dX11_league_39 : decode cX11_league 39 = .ok (.aload_n 0, 1) := by decide +kernel
theorem dX11_league_40 : decode cX11_league 40 = .ok (.iload_n 1, 1) := by decide +kernel
theorem dX11_league_41 : decode cX11_league 41 = .ok (.iload 4, 2) := by decide +kernel
theorem dX11_league_43 : decode cX11_league 43 = .ok (.invokevirtual 166, 3) := by decide +kernel
theorem dX11_league_46 : decode cX11_league 46 = .ok (.ifCond .eq 10, 3) := by decide +kernel
theorem dX11_league_49 : decode cX11_league 49 = .ok (.iconst 1, 1) := by decide +kernel
theorem dX11_league_50 : decode cX11_league 50 = .ok (.iload 4, 2) := by decide +kernel
theorem dX11_league_52 : decode cX11_league 52 = .ok (.ishl, 1) := by decide +kernel
theorem dX11_league_53 : decode cX11_league 53 = .ok (.goto 4, 3) := by decide +kernel
theorem dX11_league_56 : decode cX11_league 56 = .ok (.iconst 0, 1) := by decide +kernel
theorem dX11_league_57 : decode cX11_league 57 = .ok (.ior, 1) := by decide +kernel
theorem dX11_league_58 : decode cX11_league 58 = .ok (.istore_n 3, 1) := by decide +kernel
theorem dX11_league_59 : decode cX11_league 59 = .ok (.iinc 4 1, 3) := by decide +kernel
theorem dX11_league_62 : decode cX11_league 62 = .ok (.goto (-41), 3) := by decide +kernel
theorem dX11_league_65 : decode cX11_league 65 = .ok (.iload_n 3, 1) := by decide +kernel
theorem dX11_league_66 : decode cX11_league 66 = .ok (.ireturn, 1) := by decide +kernel
theorem dX11_largest_0 : decode cX11_largest 0 = .ok (.iload_n 1, 1) := by decide +kernel
theorem dX11_largest_1 : decode cX11_largest 1 = .ok (.iconst 0, 1) := by decide +kernel
theorem dX11_largest_2 : decode cX11_largest 2 = .ok (.iconst 1, 1) := by decide +kernel
theorem dX11_largest_3 : decode cX11_largest 3 = .ok (.invokestatic 40, 3) := by decide +kernel
theorem dX11_largest_6 : decode cX11_largest 6 = .ok (.ifCond .ne 10, 3) := by decide +kernel
theorem dX11_largest_9 : decode cX11_largest 9 = .ok (.aload_n 0, 1) := by decide +kernel
theorem dX11_largest_10 : decode cX11_largest 10 = .ok (.bipush (-2), 2) := by decide +kernel
theorem dX11_largest_12 : decode cX11_largest 12 = .ok (.invokevirtual 36, 3) := by decide +kernel
theorem dX11_largest_15 : decode cX11_largest 15 = .ok (.ireturn, 1) := by decide +kernel
theorem dX11_largest_16 : decode cX11_largest 16 = .ok (.aload_n 0, 1) := by decide +kernel
theorem dX11_largest_17 : decode cX11_largest 17 = .ok (.getfield 9, 3) := by decide +kernel
theorem dX11_largest_20 : decode cX11_largest 20 = .ok (.invokestatic 136, 3) := by decide +kernel
theorem dX11_largest_23 : decode cX11_largest 23 = .ok (.istore_n 2, 1) := by decide +kernel
theorem dX11_largest_24 : decode cX11_largest 24 = .ok (.iconst 0, 1) := by decide +kernel
theorem dX11_largest_25 : decode cX11_largest 25 = .ok (.istore_n 3, 1) := by decide +kernel
theorem dX11_largest_26 : decode cX11_largest 26 = .ok (.iconst 0, 1) := by decide +kernel
theorem dX11_largest_27 : decode cX11_largest 27 = .ok (.istore 4, 2) := by decide +kernel
theorem dX11_largest_29 : decode cX11_largest 29 = .ok (.iload 4, 2) := by decide +kernel
theorem dX11_largest_31 : decode cX11_largest 31 = .ok (.iload_n 2, 1) := by decide +kernel
theorem dX11_largest_32 : decode cX11_largest 32 = .ok (.if_icmp .gt 133, 3) := by decide +kernel
theorem dX11_largest_35 : decode cX11_largest 35 = .ok (.iload 4, 2) := by decide +kernel
theorem dX11_largest_37 : decode cX11_largest 37 = .ok (.iload_n 2, 1) := by decide +kernel
theorem dX11_largest_38 : decode cX11_largest 38 = .ok (.iconst (-1), 1) := by decide +kernel
theorem dX11_largest_39 : decode cX11_largest 39 = .ok (.ixor, 1) := by decide +kernel
theorem dX11_largest_40 : decode cX11_largest 40 = .ok (.iand, 1) := by decide +kernel
theorem dX11_largest_41 : decode cX11_largest 41 = .ok (.ifCond .ne 19, 3) := by decide +kernel
theorem dX11_largest_44 : decode cX11_largest 44 = .ok (.iload 4, 2) := by decide +kernel
theorem dX11_largest_46 : decode cX11_largest 46 = .ok (.invokestatic 139, 3) := by decide +kernel
theorem dX11_largest_49 : decode cX11_largest 49 = .ok (.iload_n 3, 1) := by decide +kernel
theorem dX11_largest_50 : decode cX11_largest 50 = .ok (.invokestatic 139, 3) := by decide +kernel
theorem dX11_largest_53 : decode cX11_largest 53 = .ok (.if_icmp .le 7, 3) := by decide +kernel
theorem dX11_largest_56 : decode cX11_largest 56 = .ok (.iconst 1, 1) := by decide +kernel
theorem dX11_largest_57 : decode cX11_largest 57 = .ok (.goto 4, 3) := by decide +kernel
theorem dX11_largest_60 : decode cX11_largest 60 = .ok (.iconst 0, 1) := by decide +kernel
theorem dX11_largest_61 : decode cX11_largest 61 = .ok (.istore 5, 2) := by decide +kernel
theorem dX11_largest_63 : decode cX11_largest 63 = .ok (.iconst 0, 1) := by decide +kernel
theorem dX11_largest_64 : decode cX11_largest 64 = .ok (.istore 6, 2) := by decide +kernel
theorem dX11_largest_66 : decode cX11_largest 66 = .ok (.iload 6, 2) := by decide +kernel
theorem dX11_largest_68 : decode cX11_largest 68 = .ok (.aload_n 0, 1) := by decide +kernel
theorem dX11_largest_69 : decode cX11_largest 69 = .ok (.getfield 9, 3) := by decide +kernel
theorem dX11_largest_72 : decode cX11_largest 72 = .ok (.iconst 0, 1) := by decide +kernel
theorem dX11_largest_73 : decode cX11_largest 73 = .ok (.iaload, 1) := by decide +kernel
theorem dX11_largest_74 : decode cX11_largest 74 = .ok (.if_icmp .ge 73, 3) := by decide +kernel
theorem dX11_largest_77 : decode cX11_largest 77 = .ok (.iload 5, 2) := by decide +kernel
theorem dX11_largest_79 : decode cX11_largest 79 = .ok (.ifCond .eq 68, 3) := by decide +kernel
theorem dX11_largest_82 : decode cX11_largest 82 = .ok (.iconst 0, 1) := by decide +kernel
theorem dX11_largest_83 : decode cX11_largest 83 = .ok (.istore 7, 2) := by decide +kernel
theorem dX11_largest_85 : decode cX11_largest 85 = .ok (.iload 7, 2) := by decide +kernel
theorem dX11_largest_87 : decode cX11_largest 87 = .ok (.iload 6, 2) := by decide +kernel
theorem dX11_largest_89 : decode cX11_largest 89 = .ok (.if_icmp .ge 52, 3) := by decide +kernel
theorem dX11_largest_92 : decode cX11_largest 92 = .ok (.iload 5, 2) := by decide +kernel
theorem dX11_largest_94 : decode cX11_largest 94 = .ok (.ifCond .eq 47, 3) := by decide +kernel
theorem dX11_largest_97 : decode cX11_largest 97 = .ok (.iload 4, 2) := by decide +kernel
theorem dX11_largest_99 : decode cX11_largest 99 = .ok (.iload 6, 2) := by decide +kernel
theorem dX11_largest_101 : decode cX11_largest 101 = .ok (.invokestatic 169, 3) := by decide +kernel
theorem dX11_largest_104 : decode cX11_largest 104 = .ok (.ifCond .eq 24, 3) := by decide +kernel
theorem dX11_largest_107 : decode cX11_largest 107 = .ok (.iload 4, 2) := by decide +kernel
theorem dX11_largest_109 : decode cX11_largest 109 = .ok (.iload 7, 2) := by decide +kernel
theorem dX11_largest_111 : decode cX11_largest 111 = .ok (.invokestatic 169, 3) := by decide +kernel
theorem dX11_largest_114 : decode cX11_largest 114 = .ok (.ifCond .eq 14, 3) := by decide +kernel
theorem dX11_largest_117 : decode cX11_largest 117 = .ok (.aload_n 0, 1) := by decide +kernel
theorem dX11_largest_118 : decode cX11_largest 118 = .ok (.iload 6, 2) := by decide +kernel
theorem dX11_largest_120 : decode cX11_largest 120 = .ok (.iload 7, 2) := by decide +kernel
theorem dX11_largest_122 : decode cX11_largest 122 = .ok (.invokevirtual 166, 3) := by decide +kernel
theorem dX11_largest_125 : decode cX11_largest 125 = .ok (.ifCond .eq 7, 3) := by decide +kernel
theorem dX11_largest_128 : decode cX11_largest 128 = .ok (.iconst 1, 1) := by decide +kernel
theorem dX11_largest_129 : decode cX11_largest 129 = .ok (.goto 4, 3) := by decide +kernel
theorem dX11_largest_132 : decode cX11_largest 132 = .ok (.iconst 0, 1) := by decide +kernel
theorem dX11_largest_133 : decode cX11_largest 133 = .ok (.istore 5, 2) := by decide +kernel
theorem dX11_largest_135 : decode cX11_largest 135 = .ok (.iinc 7 1, 3) := by decide +kernel
theorem dX11_largest_138 : decode cX11_largest 138 = .ok (.goto (-53), 3) := by decide +kernel
theorem dX11_largest_141 : decode cX11_largest 141 = .ok (.iinc 6 1, 3) := by decide +kernel
theorem dX11_largest_144 : decode cX11_largest 144 = .ok (.goto (-78), 3) := by decide +kernel
theorem dX11_largest_147 : decode cX11_largest 147 = .ok (.iload 5, 2) := by decide +kernel
theorem dX11_largest_149 : decode cX11_largest 149 = .ok (.ifCond .eq 8, 3) := by decide +kernel
theorem dX11_largest_152 : decode cX11_largest 152 = .ok (.iload 4, 2) := by decide +kernel
theorem dX11_largest_154 : decode cX11_largest 154 = .ok (.goto 4, 3) := by decide +kernel
theorem dX11_largest_157 : decode cX11_largest 157 = .ok (.iload_n 3, 1) := by decide +kernel
theorem dX11_largest_158 : decode cX11_largest 158 = .ok (.istore_n 3, 1) := by decide +kernel
theorem dX11_largest_159 : decode cX11_largest 159 = .ok (.iinc 4 1, 3) := by decide +kernel
theorem dX11_largest_162 : decode cX11_largest 162 = .ok (.goto (-133), 3) := by decide +kernel
theorem dX11_largest_165 : decode cX11_largest 165 = .ok (.iload_n 1, 1) := by decide +kernel
theorem dX11_largest_166 : decode cX11_largest 166 = .ok (.ifCond .ne 7, 3) := by decide +kernel
theorem dX11_largest_169 : decode cX11_largest 169 = .ok (.iload_n 3, 1) := by decide +kernel
theorem dX11_largest_170 : decode cX11_largest 170 = .ok (.goto 7, 3) := by decide +kernel
theorem dX11_largest_173 : decode cX11_largest 173 = .ok (.iload_n 3, 1) := by decide +kernel
theorem dX11_largest_174 : decode cX11_largest 174 = .ok (.invokestatic 139, 3) := by decide +kernel
theorem dX11_largest_177 : decode cX11_largest 177 = .ok (.ireturn, 1) := by decide +kernel
theorem dX11_cold_0 : decode cX11_cold 0 = .ok (.iload_n 1, 1) := by decide +kernel
theorem dX11_cold_1 : decode cX11_cold 1 = .ok (.iconst 0, 1) := by decide +kernel
theorem dX11_cold_2 : decode cX11_cold 2 = .ok (.iconst 1, 1) := by decide +kernel
theorem dX11_cold_3 : decode cX11_cold 3 = .ok (.invokestatic 40, 3) := by decide +kernel
theorem dX11_cold_6 : decode cX11_cold 6 = .ok (.ifCond .ne 10, 3) := by decide +kernel
theorem dX11_cold_9 : decode cX11_cold 9 = .ok (.aload_n 0, 1) := by decide +kernel
theorem dX11_cold_10 : decode cX11_cold 10 = .ok (.bipush (-2), 2) := by decide +kernel
theorem dX11_cold_12 : decode cX11_cold 12 = .ok (.invokevirtual 36, 3) := by decide +kernel
theorem dX11_cold_15 : decode cX11_cold 15 = .ok (.ireturn, 1) := by decide +kernel
theorem dX11_cold_16 : decode cX11_cold 16 = .ok (.iconst 0, 1) := by decide +kernel
theorem dX11_cold_17 : decode cX11_cold 17 = .ok (.istore_n 2, 1) := by decide +kernel
theorem dX11_cold_18 : decode cX11_cold 18 = .ok (.bipush (-9), 2) := by decide +kernel
theorem dX11_cold_20 : decode cX11_cold 20 = .ok (.istore_n 3, 1) := by decide +kernel
theorem dX11_cold_21 : decode cX11_cold 21 = .ok (.iconst 0, 1) := by decide +kernel
theorem dX11_cold_22 : decode cX11_cold 22 = .ok (.istore 4, 2) := by decide +kernel
theorem dX11_cold_24 : decode cX11_cold 24 = .ok (.iload 4, 2) := by decide +kernel
theorem dX11_cold_26 : decode cX11_cold 26 = .ok (.aload_n 0, 1) := by decide +kernel
theorem dX11_cold_27 : decode cX11_cold 27 = .ok (.getfield 9, 3) := by decide +kernel
theorem dX11_cold_30 : decode cX11_cold 30 = .ok (.iconst 0, 1) := by decide +kernel
theorem dX11_cold_31 : decode cX11_cold 31 = .ok (.iaload, 1) := by decide +kernel
theorem dX11_cold_32 : decode cX11_cold 32 = .ok (.if_icmp .ge 107, 3) := by decide +kernel
theorem dX11_cold_35 : decode cX11_cold 35 = .ok (.iload 4, 2) := by decide +kernel
theorem dX11_cold_37 : decode cX11_cold 37 = .ok (.iconst 1, 1) := by decide +kernel
theorem dX11_cold_38 : decode cX11_cold 38 = .ok (.iadd, 1) := by decide +kernel
theorem dX11_cold_39 : decode cX11_cold 39 = .ok (.istore 5, 2) := by decide +kernel
theorem dX11_cold_41 : decode cX11_cold 41 = .ok (.iload 5, 2) := by decide +kernel
theorem dX11_cold_43 : decode cX11_cold 43 = .ok (.aload_n 0, 1) := by decide +kernel
theorem dX11_cold_44 : decode cX11_cold 44 = .ok (.getfield 9, 3) := by decide +kernel
theorem dX11_cold_47 : decode cX11_cold 47 = .ok (.iconst 0, 1) := by decide +kernel
theorem dX11_cold_48 : decode cX11_cold 48 = .ok (.iaload, 1) := by decide +kernel
theorem dX11_cold_49 : decode cX11_cold 49 = .ok (.if_icmp .ge 84, 3) := by decide +kernel
theorem dX11_cold_52 : decode cX11_cold 52 = .ok (.aload_n 0, 1) := by decide +kernel
theorem dX11_cold_53 : decode cX11_cold 53 = .ok (.getfield 9, 3) := by decide +kernel
theorem dX11_cold_56 : decode cX11_cold 56 = .ok (.iload 4, 2) := by decide +kernel
theorem dX11_cold_58 : decode cX11_cold 58 = .ok (.invokestatic 52, 3) := by decide +kernel
theorem dX11_cold_61 : decode cX11_cold 61 = .ok (.ifCond .eq 66, 3) := by decide +kernel
theorem dX11_cold_64 : decode cX11_cold 64 = .ok (.aload_n 0, 1) := by decide +kernel
theorem dX11_cold_65 : decode cX11_cold 65 = .ok (.getfield 9, 3) := by decide +kernel
theorem dX11_cold_68 : decode cX11_cold 68 = .ok (.iload 5, 2) := by decide +kernel
theorem dX11_cold_70 : decode cX11_cold 70 = .ok (.invokestatic 52, 3) := by decide +kernel
theorem dX11_cold_73 : decode cX11_cold 73 = .ok (.ifCond .eq 54, 3) := by decide +kernel
theorem dX11_cold_76 : decode cX11_cold 76 = .ok (.aload_n 0, 1) := by decide +kernel
theorem dX11_cold_77 : decode cX11_cold 77 = .ok (.getfield 9, 3) := by decide +kernel
theorem dX11_cold_80 : decode cX11_cold 80 = .ok (.iload 4, 2) := by decide +kernel
theorem dX11_cold_82 : decode cX11_cold 82 = .ok (.iload 5, 2) := by decide +kernel
theorem dX11_cold_84 : decode cX11_cold 84 = .ok (.invokestatic 56, 3) := by decide +kernel
theorem dX11_cold_87 : decode cX11_cold 87 = .ok (.iaload, 1) := by decide +kernel
theorem dX11_cold_88 : decode cX11_cold 88 = .ok (.aload_n 0, 1) := by decide +kernel
theorem dX11_cold_89 : decode cX11_cold 89 = .ok (.getfield 9, 3) := by decide +kernel
theorem dX11_cold_92 : decode cX11_cold 92 = .ok (.iload 5, 2) := by decide +kernel
theorem dX11_cold_94 : decode cX11_cold 94 = .ok (.iload 4, 2) := by decide +kernel
theorem dX11_cold_96 : decode cX11_cold 96 = .ok (.invokestatic 56, 3) := by decide +kernel
theorem dX11_cold_99 : decode cX11_cold 99 = .ok (.iaload, 1) := by decide +kernel
theorem dX11_cold_100 : decode cX11_cold 100 = .ok (.iadd, 1) := by decide +kernel
theorem dX11_cold_101 : decode cX11_cold 101 = .ok (.ifCond .le 6, 3) := by decide +kernel
theorem dX11_cold_104 : decode cX11_cold 104 = .ok (.goto 23, 3) := by decide +kernel
theorem dX11_cold_107 : decode cX11_cold 107 = .ok (.iload_n 2, 1) := by decide +kernel
theorem dX11_cold_108 : decode cX11_cold 108 = .ok (.ifCond .ne 14, 3) := by decide +kernel
theorem dX11_cold_111 : decode cX11_cold 111 = .ok (.bipush 10, 2) := by decide +kernel
theorem dX11_cold_113 : decode cX11_cold 113 = .ok (.iload 4, 2) := by decide +kernel
theorem dX11_cold_115 : decode cX11_cold 115 = .ok (.imul, 1) := by decide +kernel
theorem dX11_cold_116 : decode cX11_cold 116 = .ok (.iload 5, 2) := by decide +kernel
theorem dX11_cold_118 : decode cX11_cold 118 = .ok (.iadd, 1) := by decide +kernel
theorem dX11_cold_119 : decode cX11_cold 119 = .ok (.goto 4, 3) := by decide +kernel
theorem dX11_cold_122 : decode cX11_cold 122 = .ok (.iload_n 3, 1) := by decide +kernel
theorem dX11_cold_123 : decode cX11_cold 123 = .ok (.istore_n 3, 1) := by decide +kernel
theorem dX11_cold_124 : decode cX11_cold 124 = .ok (.iinc 2 1, 3) := by decide +kernel
theorem dX11_cold_127 : decode cX11_cold 127 = .ok (.iinc 5 1, 3) := by decide +kernel
theorem dX11_cold_130 : decode cX11_cold 130 = .ok (.goto (-89), 3) := by decide +kernel
theorem dX11_cold_133 : decode cX11_cold 133 = .ok (.iinc 4 1, 3) := by decide +kernel
theorem dX11_cold_136 : decode cX11_cold 136 = .ok (.goto (-112), 3) := by decide +kernel
theorem dX11_cold_139 : decode cX11_cold 139 = .ok (.iload_n 1, 1) := by decide +kernel
theorem dX11_cold_140 : decode cX11_cold 140 = .ok (.ifCond .ne 7, 3) := by decide +kernel
theorem dX11_cold_143 : decode cX11_cold 143 = .ok (.iload_n 2, 1) := by decide +kernel
theorem dX11_cold_144 : decode cX11_cold 144 = .ok (.goto 4, 3) := by decide +kernel
theorem dX11_cold_147 : decode cX11_cold 147 = .ok (.iload_n 3, 1) := by decide +kernel
theorem dX11_cold_148 : decode cX11_cold 148 = .ok (.ireturn, 1) := by decide +kernel
theorem dX11_envy_0 : decode cX11_envy 0 = .ok (.aload_n 0, 1) := by decide +kernel
theorem dX11_envy_1 : decode cX11_envy 1 = .ok (.iload_n 1, 1) := by decide +kernel
theorem dX11_envy_2 : decode cX11_envy 2 = .ok (.invokevirtual 156, 3) := by decide +kernel
theorem dX11_envy_5 : decode cX11_envy 5 = .ok (.istore_n 2, 1) := by decide +kernel
theorem dX11_envy_6 : decode cX11_envy 6 = .ok (.iload_n 2, 1) := by decide +kernel
theorem dX11_envy_7 : decode cX11_envy 7 = .ok (.ifCond .eq 9, 3) := by decide +kernel
theorem dX11_envy_10 : decode cX11_envy 10 = .ok (.aload_n 0, 1) := by decide +kernel
theorem dX11_envy_11 : decode cX11_envy 11 = .ok (.iload_n 2, 1) := by decide +kernel
theorem dX11_envy_12 : decode cX11_envy 12 = .ok (.invokevirtual 36, 3) := by decide +kernel
theorem dX11_envy_15 : decode cX11_envy 15 = .ok (.ireturn, 1) := by decide +kernel
theorem dX11_envy_16 : decode cX11_envy 16 = .ok (.bipush (-9), 2) := by decide +kernel
theorem dX11_envy_18 : decode cX11_envy 18 = .ok (.istore_n 3, 1) := by decide +kernel
theorem dX11_envy_19 : decode cX11_envy 19 = .ok (.iconst 0, 1) := by decide +kernel
theorem dX11_envy_20 : decode cX11_envy 20 = .ok (.istore 4, 2) := by decide +kernel
theorem dX11_envy_22 : decode cX11_envy 22 = .ok (.iload 4, 2) := by decide +kernel
theorem dX11_envy_24 : decode cX11_envy 24 = .ok (.aload_n 0, 1) := by decide +kernel
theorem dX11_envy_25 : decode cX11_envy 25 = .ok (.getfield 9, 3) := by decide +kernel
theorem dX11_envy_28 : decode cX11_envy 28 = .ok (.iconst 0, 1) := by decide +kernel
theorem dX11_envy_29 : decode cX11_envy 29 = .ok (.iaload, 1) := by decide +kernel
theorem dX11_envy_30 : decode cX11_envy 30 = .ok (.if_icmp .ge 58, 3) := by decide +kernel
theorem dX11_envy_33 : decode cX11_envy 33 = .ok (.iload 4, 2) := by decide +kernel
theorem dX11_envy_35 : decode cX11_envy 35 = .ok (.iload_n 1, 1) := by decide +kernel
theorem dX11_envy_36 : decode cX11_envy 36 = .ok (.if_icmp .eq 46, 3) := by decide +kernel
theorem dX11_envy_39 : decode cX11_envy 39 = .ok (.aload_n 0, 1) := by decide +kernel
theorem dX11_envy_40 : decode cX11_envy 40 = .ok (.getfield 9, 3) := by decide +kernel
theorem dX11_envy_43 : decode cX11_envy 43 = .ok (.iload 4, 2) := by decide +kernel
theorem dX11_envy_45 : decode cX11_envy 45 = .ok (.invokestatic 52, 3) := by decide +kernel
theorem dX11_envy_48 : decode cX11_envy 48 = .ok (.ifCond .eq 34, 3) := by decide +kernel
theorem dX11_envy_51 : decode cX11_envy 51 = .ok (.iload_n 3, 1) := by decide +kernel
theorem dX11_envy_52 : decode cX11_envy 52 = .ok (.ifCond .lt 27, 3) := by decide +kernel
theorem dX11_envy_55 : decode cX11_envy 55 = .ok (.aload_n 0, 1) := by decide +kernel
theorem dX11_envy_56 : decode cX11_envy 56 = .ok (.getfield 9, 3) := by decide +kernel
theorem dX11_envy_59 : decode cX11_envy 59 = .ok (.iload_n 1, 1) := by decide +kernel
theorem dX11_envy_60 : decode cX11_envy 60 = .ok (.iload 4, 2) := by decide +kernel
theorem dX11_envy_62 : decode cX11_envy 62 = .ok (.invokestatic 56, 3) := by decide +kernel
theorem dX11_envy_65 : decode cX11_envy 65 = .ok (.iaload, 1) := by decide +kernel
theorem dX11_envy_66 : decode cX11_envy 66 = .ok (.aload_n 0, 1) := by decide +kernel
theorem dX11_envy_67 : decode cX11_envy 67 = .ok (.getfield 9, 3) := by decide +kernel
theorem dX11_envy_70 : decode cX11_envy 70 = .ok (.iload_n 1, 1) := by decide +kernel
theorem dX11_envy_71 : decode cX11_envy 71 = .ok (.iload_n 3, 1) := by decide +kernel
theorem dX11_envy_72 : decode cX11_envy 72 = .ok (.invokestatic 56, 3) := by decide +kernel
theorem dX11_envy_75 : decode cX11_envy 75 = .ok (.iaload, 1) := by decide +kernel
theorem dX11_envy_76 : decode cX11_envy 76 = .ok (.if_icmp .ge 6, 3) := by decide +kernel
theorem dX11_envy_79 : decode cX11_envy 79 = .ok (.iload 4, 2) := by decide +kernel
theorem dX11_envy_81 : decode cX11_envy 81 = .ok (.istore_n 3, 1) := by decide +kernel
theorem dX11_envy_82 : decode cX11_envy 82 = .ok (.iinc 4 1, 3) := by decide +kernel
theorem dX11_envy_85 : decode cX11_envy 85 = .ok (.goto (-63), 3) := by decide +kernel
theorem dX11_envy_88 : decode cX11_envy 88 = .ok (.iload_n 3, 1) := by decide +kernel
theorem dX11_envy_89 : decode cX11_envy 89 = .ok (.ireturn, 1) := by decide +kernel
theorem dX11_power_0 : decode cX11_power 0 = .ok (.aload_n 0, 1) := by decide +kernel
theorem dX11_power_1 : decode cX11_power 1 = .ok (.iload_n 1, 1) := by decide +kernel
theorem dX11_power_2 : decode cX11_power 2 = .ok (.invokevirtual 44, 3) := by decide +kernel
theorem dX11_power_5 : decode cX11_power 5 = .ok (.ifCond .eq 13, 3) := by decide +kernel
theorem dX11_power_8 : decode cX11_power 8 = .ok (.iload_n 2, 1) := by decide +kernel
theorem dX11_power_9 : decode cX11_power 9 = .ok (.iconst 1, 1) := by decide +kernel
theorem dX11_power_10 : decode cX11_power 10 = .ok (.bipush 60, 2) := by decide +kernel
theorem dX11_power_12 : decode cX11_power 12 = .ok (.invokestatic 132, 3) := by decide +kernel
theorem dX11_power_15 : decode cX11_power 15 = .ok (.goto 4, 3) := by decide +kernel
theorem dX11_power_18 : decode cX11_power 18 = .ok (.iconst (-1), 1) := by decide +kernel
theorem dX11_power_19 : decode cX11_power 19 = .ok (.istore_n 3, 1) := by decide +kernel
theorem dX11_power_20 : decode cX11_power 20 = .ok (.iload_n 3, 1) := by decide +kernel
theorem dX11_power_21 : decode cX11_power 21 = .ok (.ifCond .ne 17, 3) := by decide +kernel
theorem dX11_power_24 : decode cX11_power 24 = .ok (.aload_n 0, 1) := by decide +kernel
theorem dX11_power_25 : decode cX11_power 25 = .ok (.getfield 9, 3) := by decide +kernel
theorem dX11_power_28 : decode cX11_power 28 = .ok (.iload_n 1, 1) := by decide +kernel
theorem dX11_power_29 : decode cX11_power 29 = .ok (.invokestatic 52, 3) := by decide +kernel
theorem dX11_power_32 : decode cX11_power 32 = .ok (.ifCond .ne 6, 3) := by decide +kernel
theorem dX11_power_35 : decode cX11_power 35 = .ok (.bipush (-3), 2) := by decide +kernel
theorem dX11_power_37 : decode cX11_power 37 = .ok (.istore_n 3, 1) := by decide +kernel
theorem dX11_power_38 : decode cX11_power 38 = .ok (.iload_n 3, 1) := by decide +kernel
theorem dX11_power_39 : decode cX11_power 39 = .ok (.ifCond .eq 9, 3) := by decide +kernel
theorem dX11_power_42 : decode cX11_power 42 = .ok (.aload_n 0, 1) := by decide +kernel
theorem dX11_power_43 : decode cX11_power 43 = .ok (.iload_n 3, 1) := by decide +kernel
theorem dX11_power_44 : decode cX11_power 44 = .ok (.invokevirtual 36, 3) := by decide +kernel
theorem dX11_power_47 : decode cX11_power 47 = .ok (.ireturn, 1) := by decide +kernel
theorem dX11_power_48 : decode cX11_power 48 = .ok (.aload_n 0, 1) := by decide +kernel
theorem dX11_power_49 : decode cX11_power 49 = .ok (.getfield 9, 3) := by decide +kernel
theorem dX11_power_52 : decode cX11_power 52 = .ok (.aload_n 0, 1) := by decide +kernel
theorem dX11_power_53 : decode cX11_power 53 = .ok (.getfield 13, 3) := by decide +kernel
theorem dX11_power_56 : decode cX11_power 56 = .ok (.invokestatic 125, 3) := by decide +kernel
theorem dX11_power_59 : decode cX11_power 59 = .ok (.aload_n 0, 1) := by decide +kernel
theorem dX11_power_60 : decode cX11_power 60 = .ok (.getfield 9, 3) := by decide +kernel
theorem dX11_power_63 : decode cX11_power 63 = .ok (.aload_n 0, 1) := by decide +kernel
theorem dX11_power_64 : decode cX11_power 64 = .ok (.getfield 19, 3) := by decide +kernel
theorem dX11_power_67 : decode cX11_power 67 = .ok (.invokestatic 125, 3) := by decide +kernel
theorem dX11_power_70 : decode cX11_power 70 = .ok (.iconst 0, 1) := by decide +kernel
theorem dX11_power_71 : decode cX11_power 71 = .ok (.istore 4, 2) := by decide +kernel
theorem dX11_power_73 : decode cX11_power 73 = .ok (.iload 4, 2) := by decide +kernel
theorem dX11_power_75 : decode cX11_power 75 = .ok (.aload_n 0, 1) := by decide +kernel
theorem dX11_power_76 : decode cX11_power 76 = .ok (.getfield 9, 3) := by decide +kernel
theorem dX11_power_79 : decode cX11_power 79 = .ok (.iconst 0, 1) := by decide +kernel
theorem dX11_power_80 : decode cX11_power 80 = .ok (.iaload, 1) := by decide +kernel
theorem dX11_power_81 : decode cX11_power 81 = .ok (.if_icmp .ge 21, 3) := by decide +kernel
theorem dX11_power_84 : decode cX11_power 84 = .ok (.aload_n 0, 1) := by decide +kernel
theorem dX11_power_85 : decode cX11_power 85 = .ok (.getfield 19, 3) := by decide +kernel
theorem dX11_power_88 : decode cX11_power 88 = .ok (.iload_n 1, 1) := by decide +kernel
theorem dX11_power_89 : decode cX11_power 89 = .ok (.iload 4, 2) := by decide +kernel
theorem dX11_power_91 : decode cX11_power 91 = .ok (.invokestatic 56, 3) := by decide +kernel
theorem dX11_power_94 : decode cX11_power 94 = .ok (.iconst 0, 1) := by decide +kernel
theorem dX11_power_95 : decode cX11_power 95 = .ok (.iastore, 1) := by decide +kernel
theorem dX11_power_96 : decode cX11_power 96 = .ok (.iinc 4 1, 3) := by decide +kernel
theorem dX11_power_99 : decode cX11_power 99 = .ok (.goto (-26), 3) := by decide +kernel
theorem dX11_power_102 : decode cX11_power 102 = .ok (.iconst 0, 1) := by decide +kernel
theorem dX11_power_103 : decode cX11_power 103 = .ok (.istore 4, 2) := by decide +kernel
theorem dX11_power_105 : decode cX11_power 105 = .ok (.iconst 0, 1) := by decide +kernel
theorem dX11_power_106 : decode cX11_power 106 = .ok (.istore 5, 2) := by decide +kernel
theorem dX11_power_108 : decode cX11_power 108 = .ok (.iload 5, 2) := by decide +kernel
theorem dX11_power_110 : decode cX11_power 110 = .ok (.iload_n 2, 1) := by decide +kernel
theorem dX11_power_111 : decode cX11_power 111 = .ok (.if_icmp .ge 50, 3) := by decide +kernel
theorem dX11_power_114 : decode cX11_power 114 = .ok (.aload_n 0, 1) := by decide +kernel
theorem dX11_power_115 : decode cX11_power 115 = .ok (.getfield 13, 3) := by decide +kernel
theorem dX11_power_118 : decode cX11_power 118 = .ok (.invokestatic 80, 3) := by decide +kernel
theorem dX11_power_121 : decode cX11_power 121 = .ok (.aload_n 0, 1) := by decide +kernel
theorem dX11_power_122 : decode cX11_power 122 = .ok (.getfield 19, 3) := by decide +kernel
theorem dX11_power_125 : decode cX11_power 125 = .ok (.invokestatic 80, 3) := by decide +kernel
theorem dX11_power_128 : decode cX11_power 128 = .ok (.iload 4, 2) := by decide +kernel
theorem dX11_power_130 : decode cX11_power 130 = .ok (.aload_n 0, 1) := by decide +kernel
theorem dX11_power_131 : decode cX11_power 131 = .ok (.getfield 13, 3) := by decide +kernel
theorem dX11_power_134 : decode cX11_power 134 = .ok (.invokestatic 72, 3) := by decide +kernel
theorem dX11_power_137 : decode cX11_power 137 = .ok (.aload_n 0, 1) := by decide +kernel
theorem dX11_power_138 : decode cX11_power 138 = .ok (.getfield 19, 3) := by decide +kernel
theorem dX11_power_141 : decode cX11_power 141 = .ok (.invokestatic 72, 3) := by decide +kernel
theorem dX11_power_144 : decode cX11_power 144 = .ok (.if_icmp .ne 7, 3) := by decide +kernel
theorem dX11_power_147 : decode cX11_power 147 = .ok (.iconst 0, 1) := by decide +kernel
theorem dX11_power_148 : decode cX11_power 148 = .ok (.goto 4, 3) := by decide +kernel
theorem dX11_power_151 : decode cX11_power 151 = .ok (.iconst 1, 1) := by decide +kernel
theorem dX11_power_152 : decode cX11_power 152 = .ok (.iadd, 1) := by decide +kernel
theorem dX11_power_153 : decode cX11_power 153 = .ok (.istore 4, 2) := by decide +kernel
theorem dX11_power_155 : decode cX11_power 155 = .ok (.iinc 5 1, 3) := by decide +kernel
theorem dX11_power_158 : decode cX11_power 158 = .ok (.goto (-50), 3) := by decide +kernel
theorem dX11_power_161 : decode cX11_power 161 = .ok (.iload 4, 2) := by decide +kernel
theorem dX11_power_163 : decode cX11_power 163 = .ok (.ireturn, 1) := by decide +kernel
theorem dX11_voids_0 : decode cX11_voids 0 = .ok (.iload_n 1, 1) := by decide +kernel
theorem dX11_voids_1 : decode cX11_voids 1 = .ok (.iconst 1, 1) := by decide +kernel
theorem dX11_voids_2 : decode cX11_voids 2 = .ok (.bipush 99, 2) := by decide +kernel
theorem dX11_voids_4 : decode cX11_voids 4 = .ok (.invokestatic 132, 3) := by decide +kernel
theorem dX11_voids_7 : decode cX11_voids 7 = .ok (.istore_n 2, 1) := by decide +kernel
theorem dX11_voids_8 : decode cX11_voids 8 = .ok (.iload_n 2, 1) := by decide +kernel
theorem dX11_voids_9 : decode cX11_voids 9 = .ok (.ifCond .eq 9, 3) := by decide +kernel
theorem dX11_voids_12 : decode cX11_voids 12 = .ok (.aload_n 0, 1) := by decide +kernel
theorem dX11_voids_13 : decode cX11_voids 13 = .ok (.iload_n 2, 1) := by decide +kernel
theorem dX11_voids_14 : decode cX11_voids 14 = .ok (.invokevirtual 36, 3) := by decide +kernel
theorem dX11_voids_17 : decode cX11_voids 17 = .ok (.ireturn, 1) := by decide +kernel
theorem dX11_voids_18 : decode cX11_voids 18 = .ok (.aload_n 0, 1) := by decide +kernel
theorem dX11_voids_19 : decode cX11_voids 19 = .ok (.iload_n 1, 1) := by decide +kernel
theorem dX11_voids_20 : decode cX11_voids 20 = .ok (.invokevirtual 142, 3) := by decide +kernel
theorem dX11_voids_23 : decode cX11_voids 23 = .ok (.iconst 0, 1) := by decide +kernel
theorem dX11_voids_24 : decode cX11_voids 24 = .ok (.istore_n 3, 1) := by decide +kernel
theorem dX11_voids_25 : decode cX11_voids 25 = .ok (.iconst 0, 1) := by decide +kernel
theorem dX11_voids_26 : decode cX11_voids 26 = .ok (.istore 4, 2) := by decide +kernel
theorem dX11_voids_28 : decode cX11_voids 28 = .ok (.iload 4, 2) := by decide +kernel
theorem dX11_voids_30 : decode cX11_voids 30 = .ok (.aload_n 0, 1) := by decide +kernel
theorem dX11_voids_31 : decode cX11_voids 31 = .ok (.getfield 9, 3) := by decide +kernel
theorem dX11_voids_34 : decode cX11_voids 34 = .ok (.iconst 0, 1) := by decide +kernel
theorem dX11_voids_35 : decode cX11_voids 35 = .ok (.iaload, 1) := by decide +kernel
theorem dX11_voids_36 : decode cX11_voids 36 = .ok (.if_icmp .ge 51, 3) := by decide +kernel
theorem dX11_voids_39 : decode cX11_voids 39 = .ok (.iload_n 3, 1) := by decide +kernel
theorem dX11_voids_40 : decode cX11_voids 40 = .ok (.aload_n 0, 1) := by decide +kernel
theorem dX11_voids_41 : decode cX11_voids 41 = .ok (.getfield 9, 3) := by decide +kernel
theorem dX11_voids_44 : decode cX11_voids 44 = .ok (.iload 4, 2) := by decide +kernel
theorem dX11_voids_46 : decode cX11_voids 46 = .ok (.invokestatic 52, 3) := by decide +kernel
theorem dX11_voids_49 : decode cX11_voids 49 = .ok (.ifCond .eq 29, 3) := by decide +kernel
theorem dX11_voids_52 : decode cX11_voids 52 = .ok (.aload_n 0, 1) := by decide +kernel
theorem dX11_voids_53 : decode cX11_voids 53 = .ok (.getfield 13, 3) := by decide +kernel
theorem dX11_voids_56 : decode cX11_voids 56 = .ok (.iload 4, 2) := by decide +kernel
theorem dX11_voids_58 : decode cX11_voids 58 = .ok (.invokestatic 52, 3) := by decide +kernel
theorem dX11_voids_61 : decode cX11_voids 61 = .ok (.ifCond .ne 17, 3) := by decide +kernel
theorem dX11_voids_64 : decode cX11_voids 64 = .ok (.aload_n 0, 1) := by decide +kernel
theorem dX11_voids_65 : decode cX11_voids 65 = .ok (.getfield 9, 3) := by decide +kernel
theorem dX11_voids_68 : decode cX11_voids 68 = .ok (.iload 4, 2) := by decide +kernel
theorem dX11_voids_70 : decode cX11_voids 70 = .ok (.iconst 3, 1) := by decide +kernel
theorem dX11_voids_71 : decode cX11_voids 71 = .ok (.invokestatic 48, 3) := by decide +kernel
theorem dX11_voids_74 : decode cX11_voids 74 = .ok (.iaload, 1) := by decide +kernel
theorem dX11_voids_75 : decode cX11_voids 75 = .ok (.goto 4, 3) := by decide +kernel
theorem dX11_voids_78 : decode cX11_voids 78 = .ok (.iconst 0, 1) := by decide +kernel
theorem dX11_voids_79 : decode cX11_voids 79 = .ok (.iadd, 1) := by decide +kernel
theorem dX11_voids_80 : decode cX11_voids 80 = .ok (.istore_n 3, 1) := by decide +kernel
theorem dX11_voids_81 : decode cX11_voids 81 = .ok (.iinc 4 1, 3) := by decide +kernel
theorem dX11_voids_84 : decode cX11_voids 84 = .ok (.goto (-56), 3) := by decide +kernel
theorem dX11_voids_87 : decode cX11_voids 87 = .ok (.iload_n 3, 1) := by decide +kernel
theorem dX11_voids_88 : decode cX11_voids 88 = .ok (.ireturn, 1) := by decide +kernel
theorem dX11_hill_0 : decode cX11_hill 0 = .ok (.iconst 0, 1) := by decide +kernel
theorem dX11_hill_1 : decode cX11_hill 1 = .ok (.istore_n 1, 1) := by decide +kernel
theorem dX11_hill_2 : decode cX11_hill 2 = .ok (.iconst 0, 1) := by decide +kernel
theorem dX11_hill_3 : decode cX11_hill 3 = .ok (.istore_n 2, 1) := by decide +kernel
theorem dX11_hill_4 : decode cX11_hill 4 = .ok (.iload_n 2, 1) := by decide +kernel
theorem dX11_hill_5 : decode cX11_hill 5 = .ok (.aload_n 0, 1) := by decide +kernel
theorem dX11_hill_6 : decode cX11_hill 6 = .ok (.getfield 9, 3) := by decide +kernel
theorem dX11_hill_9 : decode cX11_hill 9 = .ok (.iconst 0, 1) := by decide +kernel
theorem dX11_hill_10 : decode cX11_hill 10 = .ok (.iaload, 1) := by decide +kernel
theorem dX11_hill_11 : decode cX11_hill 11 = .ok (.if_icmp .ge 71, 3) := by decide +kernel
theorem dX11_hill_14 : decode cX11_hill 14 = .ok (.iconst 0, 1) := by decide +kernel
theorem dX11_hill_15 : decode cX11_hill 15 = .ok (.istore_n 3, 1) := by decide +kernel
theorem dX11_hill_16 : decode cX11_hill 16 = .ok (.iload_n 3, 1) := by decide +kernel
theorem dX11_hill_17 : decode cX11_hill 17 = .ok (.aload_n 0, 1) := by decide +kernel
theorem dX11_hill_18 : decode cX11_hill 18 = .ok (.getfield 9, 3) := by decide +kernel
theorem dX11_hill_21 : decode cX11_hill 21 = .ok (.iconst 0, 1) := by decide +kernel
theorem dX11_hill_22 : decode cX11_hill 22 = .ok (.iaload, 1) := by decide +kernel
theorem dX11_hill_23 : decode cX11_hill 23 = .ok (.if_icmp .ge 53, 3) := by decide +kernel
theorem dX11_hill_26 : decode cX11_hill 26 = .ok (.iload_n 1, 1) := by decide +kernel
theorem dX11_hill_27 : decode cX11_hill 27 = .ok (.iload_n 2, 1) := by decide +kernel
theorem dX11_hill_28 : decode cX11_hill 28 = .ok (.iload_n 3, 1) := by decide +kernel
theorem dX11_hill_29 : decode cX11_hill 29 = .ok (.if_icmp .eq 38, 3) := by decide +kernel
theorem dX11_hill_32 : decode cX11_hill 32 = .ok (.aload_n 0, 1) := by decide +kernel
theorem dX11_hill_33 : decode cX11_hill 33 = .ok (.getfield 9, 3) := by decide +kernel
theorem dX11_hill_36 : decode cX11_hill 36 = .ok (.iload_n 2, 1) := by decide +kernel
theorem dX11_hill_37 : decode cX11_hill 37 = .ok (.invokestatic 52, 3) := by decide +kernel
theorem dX11_hill_40 : decode cX11_hill 40 = .ok (.ifCond .ne 27, 3) := by decide +kernel
theorem dX11_hill_43 : decode cX11_hill 43 = .ok (.aload_n 0, 1) := by decide +kernel
theorem dX11_hill_44 : decode cX11_hill 44 = .ok (.getfield 9, 3) := by decide +kernel
theorem dX11_hill_47 : decode cX11_hill 47 = .ok (.iload_n 3, 1) := by decide +kernel
theorem dX11_hill_48 : decode cX11_hill 48 = .ok (.invokestatic 52, 3) := by decide +kernel
theorem dX11_hill_51 : decode cX11_hill 51 = .ok (.ifCond .ne 16, 3) := by decide +kernel
theorem dX11_hill_54 : decode cX11_hill 54 = .ok (.aload_n 0, 1) := by decide +kernel
theorem dX11_hill_55 : decode cX11_hill 55 = .ok (.getfield 9, 3) := by decide +kernel
theorem dX11_hill_58 : decode cX11_hill 58 = .ok (.iload_n 2, 1) := by decide +kernel
theorem dX11_hill_59 : decode cX11_hill 59 = .ok (.iload_n 3, 1) := by decide +kernel
theorem dX11_hill_60 : decode cX11_hill 60 = .ok (.invokestatic 56, 3) := by decide +kernel
theorem dX11_hill_63 : decode cX11_hill 63 = .ok (.iaload, 1) := by decide +kernel
theorem dX11_hill_64 : decode cX11_hill 64 = .ok (.goto 4, 3) := by decide +kernel
theorem dX11_hill_67 : decode cX11_hill 67 = .ok (.iconst 0, 1) := by decide +kernel
theorem dX11_hill_68 : decode cX11_hill 68 = .ok (.iadd, 1) := by decide +kernel
theorem dX11_hill_69 : decode cX11_hill 69 = .ok (.istore_n 1, 1) := by decide +kernel
theorem dX11_hill_70 : decode cX11_hill 70 = .ok (.iinc 3 1, 3) := by decide +kernel
theorem dX11_hill_73 : decode cX11_hill 73 = .ok (.goto (-57), 3) := by decide +kernel
theorem dX11_hill_76 : decode cX11_hill 76 = .ok (.iinc 2 1, 3) := by decide +kernel
theorem dX11_hill_79 : decode cX11_hill 79 = .ok (.goto (-75), 3) := by decide +kernel
theorem dX11_hill_82 : decode cX11_hill 82 = .ok (.iload_n 1, 1) := by decide +kernel
theorem dX11_hill_83 : decode cX11_hill 83 = .ok (.ireturn, 1) := by decide +kernel
theorem dX11_speaksToAll_0 : decode cX11_speaksToAll 0 = .ok (.iconst 0, 1) := by decide +kernel
theorem dX11_speaksToAll_1 : decode cX11_speaksToAll 1 = .ok (.istore_n 2, 1) := by decide +kernel
theorem dX11_speaksToAll_2 : decode cX11_speaksToAll 2 = .ok (.iload_n 2, 1) := by decide +kernel
theorem dX11_speaksToAll_3 : decode cX11_speaksToAll 3 = .ok (.aload_n 0, 1) := by decide +kernel
theorem dX11_speaksToAll_4 : decode cX11_speaksToAll 4 = .ok (.getfield 13, 3) := by decide +kernel
theorem dX11_speaksToAll_7 : decode cX11_speaksToAll 7 = .ok (.iconst 0, 1) := by decide +kernel
theorem dX11_speaksToAll_8 : decode cX11_speaksToAll 8 = .ok (.iaload, 1) := by decide +kernel
theorem dX11_speaksToAll_9 : decode cX11_speaksToAll 9 = .ok (.if_icmp .ge 34, 3) := by decide +kernel
theorem dX11_speaksToAll_12 : decode cX11_speaksToAll 12 = .ok (.iload_n 2, 1) := by decide +kernel
theorem dX11_speaksToAll_13 : decode cX11_speaksToAll 13 = .ok (.iload_n 1, 1) := by decide +kernel
theorem dX11_speaksToAll_14 : decode cX11_speaksToAll 14 = .ok (.if_icmp .eq 23, 3) := by decide +kernel
theorem dX11_speaksToAll_17 : decode cX11_speaksToAll 17 = .ok (.aload_n 0, 1) := by decide +kernel
theorem dX11_speaksToAll_18 : decode cX11_speaksToAll 18 = .ok (.getfield 13, 3) := by decide +kernel
theorem dX11_speaksToAll_21 : decode cX11_speaksToAll 21 = .ok (.iload_n 2, 1) := by decide +kernel
theorem dX11_speaksToAll_22 : decode cX11_speaksToAll 22 = .ok (.invokestatic 52, 3) := by decide +kernel
theorem dX11_speaksToAll_25 : decode cX11_speaksToAll 25 = .ok (.ifCond .eq 12, 3) := by decide +kernel
theorem dX11_speaksToAll_28 : decode cX11_speaksToAll 28 = .ok (.aload_n 0, 1) := by decide +kernel
theorem dX11_speaksToAll_29 : decode cX11_speaksToAll 29 = .ok (.getfield 13, 3) := by decide +kernel
theorem dX11_speaksToAll_32 : decode cX11_speaksToAll 32 = .ok (.iload_n 1, 1) := by decide +kernel
theorem dX11_speaksToAll_33 : decode cX11_speaksToAll 33 = .ok (.iload_n 2, 1) := by decide +kernel
theorem dX11_speaksToAll_34 : decode cX11_speaksToAll 34 = .ok (.invokestatic 112, 3) := by decide +kernel
theorem dX11_speaksToAll_37 : decode cX11_speaksToAll 37 = .ok (.iinc 2 1, 3) := by decide +kernel
theorem dX11_speaksToAll_40 : decode cX11_speaksToAll 40 = .ok (.goto (-38), 3) := by decide +kernel
theorem dX11_speaksToAll_43 : decode cX11_speaksToAll 43 = .ok (.return_, 1) := by decide +kernel
theorem dX11_hasBy_0 : decode cX11_hasBy 0 = .ok (.aload_n 0, 1) := by decide +kernel
theorem dX11_hasBy_1 : decode cX11_hasBy 1 = .ok (.getfield 9, 3) := by decide +kernel
theorem dX11_hasBy_4 : decode cX11_hasBy 4 = .ok (.aload_n 0, 1) := by decide +kernel
theorem dX11_hasBy_5 : decode cX11_hasBy 5 = .ok (.getfield 13, 3) := by decide +kernel
theorem dX11_hasBy_8 : decode cX11_hasBy 8 = .ok (.invokestatic 125, 3) := by decide +kernel
theorem dX11_hasBy_11 : decode cX11_hasBy 11 = .ok (.iload_n 3, 1) := by decide +kernel
theorem dX11_hasBy_12 : decode cX11_hasBy 12 = .ok (.iconst 1, 1) := by decide +kernel
theorem dX11_hasBy_13 : decode cX11_hasBy 13 = .ok (.if_icmp .ne 8, 3) := by decide +kernel
theorem dX11_hasBy_16 : decode cX11_hasBy 16 = .ok (.aload_n 0, 1) := by decide +kernel
theorem dX11_hasBy_17 : decode cX11_hasBy 17 = .ok (.iload_n 2, 1) := by decide +kernel
theorem dX11_hasBy_18 : decode cX11_hasBy 18 = .ok (.invokevirtual 172, 3) := by decide +kernel
theorem dX11_hasBy_21 : decode cX11_hasBy 21 = .ok (.iload 5, 2) := by decide +kernel
theorem dX11_hasBy_23 : decode cX11_hasBy 23 = .ok (.iconst 1, 1) := by decide +kernel
theorem dX11_hasBy_24 : decode cX11_hasBy 24 = .ok (.if_icmp .ne 9, 3) := by decide +kernel
theorem dX11_hasBy_27 : decode cX11_hasBy 27 = .ok (.aload_n 0, 1) := by decide +kernel
theorem dX11_hasBy_28 : decode cX11_hasBy 28 = .ok (.iload 4, 2) := by decide +kernel
theorem dX11_hasBy_30 : decode cX11_hasBy 30 = .ok (.invokevirtual 172, 3) := by decide +kernel
theorem dX11_hasBy_33 : decode cX11_hasBy 33 = .ok (.aload_n 0, 1) := by decide +kernel
theorem dX11_hasBy_34 : decode cX11_hasBy 34 = .ok (.getfield 13, 3) := by decide +kernel
theorem dX11_hasBy_37 : decode cX11_hasBy 37 = .ok (.iload 6, 2) := by decide +kernel
theorem dX11_hasBy_39 : decode cX11_hasBy 39 = .ok (.invokestatic 119, 3) := by decide +kernel
theorem dX11_hasBy_42 : decode cX11_hasBy 42 = .ok (.aload_n 0, 1) := by decide +kernel
theorem dX11_hasBy_43 : decode cX11_hasBy 43 = .ok (.getfield 13, 3) := by decide +kernel
theorem dX11_hasBy_46 : decode cX11_hasBy 46 = .ok (.iload_n 1, 1) := by decide +kernel
theorem dX11_hasBy_47 : decode cX11_hasBy 47 = .ok (.invokestatic 62, 3) := by decide +kernel
theorem dX11_hasBy_50 : decode cX11_hasBy 50 = .ok (.bipush 30, 2) := by decide +kernel
theorem dX11_hasBy_52 : decode cX11_hasBy 52 = .ok (.iload_n 1, 1) := by decide +kernel
theorem dX11_hasBy_53 : decode cX11_hasBy 53 = .ok (.iload_n 2, 1) := by decide +kernel
theorem dX11_hasBy_54 : decode cX11_hasBy 54 = .ok (.if_icmp .ne 7, 3) := by decide +kernel
theorem dX11_hasBy_57 : decode cX11_hasBy 57 = .ok (.iload_n 3, 1) := by decide +kernel
theorem dX11_hasBy_58 : decode cX11_hasBy 58 = .ok (.goto 5, 3) := by decide +kernel
theorem dX11_hasBy_61 : decode cX11_hasBy 61 = .ok (.iload 5, 2) := by decide +kernel
theorem dX11_hasBy_63 : decode cX11_hasBy 63 = .ok (.imul, 1) := by decide +kernel
theorem dX11_hasBy_64 : decode cX11_hasBy 64 = .ok (.isub, 1) := by decide +kernel
theorem dX11_hasBy_65 : decode cX11_hasBy 65 = .ok (.ireturn, 1) := by decide +kernel
theorem dX11_two_0 : decode cX11_two 0 = .ok (.aload_n 0, 1) := by decide +kernel
theorem dX11_two_1 : decode cX11_two 1 = .ok (.iload_n 1, 1) := by decide +kernel
theorem dX11_two_2 : decode cX11_two 2 = .ok (.iload_n 2, 1) := by decide +kernel
theorem dX11_two_3 : decode cX11_two 3 = .ok (.invokevirtual 109, 3) := by decide +kernel
theorem dX11_two_6 : decode cX11_two 6 = .ok (.ifCond .eq 13, 3) := by decide +kernel
theorem dX11_two_9 : decode cX11_two 9 = .ok (.iload_n 3, 1) := by decide +kernel
theorem dX11_two_10 : decode cX11_two 10 = .ok (.iconst 0, 1) := by decide +kernel
theorem dX11_two_11 : decode cX11_two 11 = .ok (.bipush 30, 2) := by decide +kernel
theorem dX11_two_13 : decode cX11_two 13 = .ok (.invokestatic 132, 3) := by decide +kernel
theorem dX11_two_16 : decode cX11_two 16 = .ok (.goto 4, 3) := by decide +kernel
theorem dX11_two_19 : decode cX11_two 19 = .ok (.iconst (-1), 1) := by decide +kernel
theorem dX11_two_20 : decode cX11_two 20 = .ok (.istore 4, 2) := by decide +kernel
