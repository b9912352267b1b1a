theorem dX8_hereBits_28 : decode cX8_hereBits 28 = .ok (.iconst 0, 1) := by decide +kernel
theorem dX8_hereBits_29 : decode cX8_hereBits 29 = .ok (.ior, 1) := by decide +kernel
theorem dX8_hereBits_30 : decode cX8_hereBits 30 = .ok (.istore_n 1, 1) := by decide +kernel
theorem dX8_hereBits_31 : decode cX8_hereBits 31 = .ok (.iinc 2 1, 3) := by decide +kernel
theorem dX8_hereBits_34 : decode cX8_hereBits 34 = .ok (.goto (-30), 3) := by decide +kernel
theorem dX8_hereBits_37 : decode cX8_hereBits 37 = .ok (.iload_n 1, 1) := by decide +kernel
theorem dX8_hereBits_38 : decode cX8_hereBits 38 = .ok (.ireturn, 1) := by decide +kernel
theorem dX8_forgottenBits_0 : decode cX8_forgottenBits 0 = .ok (.iconst 1, 1) := by decide +kernel
theorem dX8_forgottenBits_1 : decode cX8_forgottenBits 1 = .ok (.aload_n 0, 1) := by decide +kernel
theorem dX8_forgottenBits_2 : decode cX8_forgottenBits 2 = .ok (.getfield 28, 3) := by decide +kernel
theorem dX8_forgottenBits_5 : decode cX8_forgottenBits 5 = .ok (.ishl, 1) := by decide +kernel
theorem dX8_forgottenBits_6 : decode cX8_forgottenBits 6 = .ok (.iconst 1, 1) := by decide +kernel
theorem dX8_forgottenBits_7 : decode cX8_forgottenBits 7 = .ok (.isub, 1) := by decide +kernel
theorem dX8_forgottenBits_8 : decode cX8_forgottenBits 8 = .ok (.aload_n 0, 1) := by decide +kernel
theorem dX8_forgottenBits_9 : decode cX8_forgottenBits 9 = .ok (.invokevirtual 109, 3) := by decide +kernel
theorem dX8_forgottenBits_12 : decode cX8_forgottenBits 12 = .ok (.iconst (-1), 1) := by decide +kernel
theorem dX8_forgottenBits_13 : decode cX8_forgottenBits 13 = .ok (.ixor, 1) := by decide +kernel
theorem dX8_forgottenBits_14 : decode cX8_forgottenBits 14 = .ok (.iand, 1) := by decide +kernel
theorem dX8_forgottenBits_15 : decode cX8_forgottenBits 15 = .ok (.ireturn, 1) := by decide +kernel
theorem dX8_countHere_0 : decode cX8_countHere 0 = .ok (.aload_n 0, 1) := by decide +kernel
theorem dX8_countHere_1 : decode cX8_countHere 1 = .ok (.invokevirtual 109, 3) := by decide +kernel
theorem dX8_countHere_4 : decode cX8_countHere 4 = .ok (.invokestatic 112, 3) := by decide +kernel
theorem dX8_countHere_7 : decode cX8_countHere 7 = .ok (.ireturn, 1) := by decide +kernel
theorem dX8_knownTogether_0 : decode cX8_knownTogether 0 = .ok (.iconst 0, 1) := by decide +kernel
theorem dX8_knownTogether_1 : decode cX8_knownTogether 1 = .ok (.istore_n 1, 1) := by decide +kernel
theorem dX8_knownTogether_2 : decode cX8_knownTogether 2 = .ok (.iconst 0, 1) := by decide +kernel
theorem dX8_knownTogether_3 : decode cX8_knownTogether 3 = .ok (.istore_n 2, 1) := by decide +kernel
theorem dX8_knownTogether_4 : decode cX8_knownTogether 4 = .ok (.iload_n 2, 1) := by decide +kernel
theorem dX8_knownTogether_5 : decode cX8_knownTogether 5 = .ok (.aload_n 0, 1) := by decide +kernel
theorem dX8_knownTogether_6 : decode cX8_knownTogether 6 = .ok (.getfield 28, 3) := by decide +kernel
theorem dX8_knownTogether_9 : decode cX8_knownTogether 9 = .ok (.if_icmp .ge 30, 3) := by decide +kernel
theorem dX8_knownTogether_12 : decode cX8_knownTogether 12 = .ok (.iload_n 1, 1) := by decide +kernel
theorem dX8_knownTogether_13 : decode cX8_knownTogether 13 = .ok (.aload_n 0, 1) := by decide +kernel
theorem dX8_knownTogether_14 : decode cX8_knownTogether 14 = .ok (.getfield 21, 3) := by decide +kernel
theorem dX8_knownTogether_17 : decode cX8_knownTogether 17 = .ok (.iload_n 2, 1) := by decide +kernel
theorem dX8_knownTogether_18 : decode cX8_knownTogether 18 = .ok (.baload, 1) := by decide +kernel
theorem dX8_knownTogether_19 : decode cX8_knownTogether 19 = .ok (.ifCond .eq 11, 3) := by decide +kernel
theorem dX8_knownTogether_22 : decode cX8_knownTogether 22 = .ok (.aload_n 0, 1) := by decide +kernel
theorem dX8_knownTogether_23 : decode cX8_knownTogether 23 = .ok (.iload_n 2, 1) := by decide +kernel
theorem dX8_knownTogether_24 : decode cX8_knownTogether 24 = .ok (.invokevirtual 105, 3) := by decide +kernel
theorem dX8_knownTogether_27 : decode cX8_knownTogether 27 = .ok (.goto 4, 3) := by decide +kernel
theorem dX8_knownTogether_30 : decode cX8_knownTogether 30 = .ok (.iconst 0, 1) := by decide +kernel
theorem dX8_knownTogether_31 : decode cX8_knownTogether 31 = .ok (.iadd, 1) := by decide +kernel
theorem dX8_knownTogether_32 : decode cX8_knownTogether 32 = .ok (.istore_n 1, 1) := by decide +kernel
theorem dX8_knownTogether_33 : decode cX8_knownTogether 33 = .ok (.iinc 2 1, 3) := by decide +kernel
theorem dX8_knownTogether_36 : decode cX8_knownTogether 36 = .ok (.goto (-32), 3) := by decide +kernel
theorem dX8_knownTogether_39 : decode cX8_knownTogether 39 = .ok (.iload_n 1, 1) := by decide +kernel
theorem dX8_knownTogether_40 : decode cX8_knownTogether 40 = .ok (.ireturn, 1) := by decide +kernel
theorem dX8_owedTogether_0 : decode cX8_owedTogether 0 = .ok (.iconst 0, 1) := by decide +kernel
theorem dX8_owedTogether_1 : decode cX8_owedTogether 1 = .ok (.istore_n 1, 1) := by decide +kernel
theorem dX8_owedTogether_2 : decode cX8_owedTogether 2 = .ok (.iconst 0, 1) := by decide +kernel
theorem dX8_owedTogether_3 : decode cX8_owedTogether 3 = .ok (.istore_n 2, 1) := by decide +kernel
theorem dX8_owedTogether_4 : decode cX8_owedTogether 4 = .ok (.iload_n 2, 1) := by decide +kernel
theorem dX8_owedTogether_5 : decode cX8_owedTogether 5 = .ok (.aload_n 0, 1) := by decide +kernel
theorem dX8_owedTogether_6 : decode cX8_owedTogether 6 = .ok (.getfield 28, 3) := by decide +kernel
theorem dX8_owedTogether_9 : decode cX8_owedTogether 9 = .ok (.if_icmp .ge 18, 3) := by decide +kernel
theorem dX8_owedTogether_12 : decode cX8_owedTogether 12 = .ok (.iload_n 1, 1) := by decide +kernel
theorem dX8_owedTogether_13 : decode cX8_owedTogether 13 = .ok (.aload_n 0, 1) := by decide +kernel
theorem dX8_owedTogether_14 : decode cX8_owedTogether 14 = .ok (.getfield 18, 3) := by decide +kernel
theorem dX8_owedTogether_17 : decode cX8_owedTogether 17 = .ok (.iload_n 2, 1) := by decide +kernel
theorem dX8_owedTogether_18 : decode cX8_owedTogether 18 = .ok (.iaload, 1) := by decide +kernel
theorem dX8_owedTogether_19 : decode cX8_owedTogether 19 = .ok (.iadd, 1) := by decide +kernel
theorem dX8_owedTogether_20 : decode cX8_owedTogether 20 = .ok (.istore_n 1, 1) := by decide +kernel
theorem dX8_owedTogether_21 : decode cX8_owedTogether 21 = .ok (.iinc 2 1, 3) := by decide +kernel
theorem dX8_owedTogether_24 : decode cX8_owedTogether 24 = .ok (.goto (-20), 3) := by decide +kernel
theorem dX8_owedTogether_27 : decode cX8_owedTogether 27 = .ok (.iload_n 1, 1) := by decide +kernel
theorem dX8_owedTogether_28 : decode cX8_owedTogether 28 = .ok (.ireturn, 1) := by decide +kernel
theorem dX8_leagueOf_0 : decode cX8_leagueOf 0 = .ok (.iconst 0, 1) := by decide +kernel
theorem dX8_leagueOf_1 : decode cX8_leagueOf 1 = .ok (.istore_n 2, 1) := by decide +kernel
theorem dX8_leagueOf_2 : decode cX8_leagueOf 2 = .ok (.iconst 0, 1) := by decide +kernel
theorem dX8_leagueOf_3 : decode cX8_leagueOf 3 = .ok (.istore_n 3, 1) := by decide +kernel
theorem dX8_leagueOf_4 : decode cX8_leagueOf 4 = .ok (.iload_n 3, 1) := by decide +kernel
theorem dX8_leagueOf_5 : decode cX8_leagueOf 5 = .ok (.aload_n 0, 1) := by decide +kernel
theorem dX8_leagueOf_6 : decode cX8_leagueOf 6 = .ok (.getfield 28, 3) := by decide +kernel
theorem dX8_leagueOf_9 : decode cX8_leagueOf 9 = .ok (.if_icmp .ge 46, 3) := by decide +kernel
theorem dX8_leagueOf_12 : decode cX8_leagueOf 12 = .ok (.aload_n 0, 1) := by decide +kernel
theorem dX8_leagueOf_13 : decode cX8_leagueOf 13 = .ok (.iload_n 1, 1) := by decide +kernel
theorem dX8_leagueOf_14 : decode cX8_leagueOf 14 = .ok (.iload_n 3, 1) := by decide +kernel
theorem dX8_leagueOf_15 : decode cX8_leagueOf 15 = .ok (.invokevirtual 73, 3) := by decide +kernel
theorem dX8_leagueOf_18 : decode cX8_leagueOf 18 = .ok (.ifCond .eq 31, 3) := by decide +kernel
theorem dX8_leagueOf_21 : decode cX8_leagueOf 21 = .ok (.aload_n 0, 1) := by decide +kernel
theorem dX8_leagueOf_22 : decode cX8_leagueOf 22 = .ok (.iload_n 1, 1) := by decide +kernel
theorem dX8_leagueOf_23 : decode cX8_leagueOf 23 = .ok (.iload_n 3, 1) := by decide +kernel
theorem dX8_leagueOf_24 : decode cX8_leagueOf 24 = .ok (.invokevirtual 117, 3) := by decide +kernel
theorem dX8_leagueOf_27 : decode cX8_leagueOf 27 = .ok (.bipush 50, 2) := by decide +kernel
theorem dX8_leagueOf_29 : decode cX8_leagueOf 29 = .ok (.if_icmp .lt 20, 3) := by decide +kernel
theorem dX8_leagueOf_32 : decode cX8_leagueOf 32 = .ok (.aload_n 0, 1) := by decide +kernel
theorem dX8_leagueOf_33 : decode cX8_leagueOf 33 = .ok (.iload_n 3, 1) := by decide +kernel
theorem dX8_leagueOf_34 : decode cX8_leagueOf 34 = .ok (.iload_n 1, 1) := by decide +kernel
theorem dX8_leagueOf_35 : decode cX8_leagueOf 35 = .ok (.invokevirtual 117, 3) := by decide +kernel
theorem dX8_leagueOf_38 : decode cX8_leagueOf 38 = .ok (.bipush 50, 2) := by decide +kernel
theorem dX8_leagueOf_40 : decode cX8_leagueOf 40 = .ok (.if_icmp .lt 9, 3) := by decide +kernel
theorem dX8_leagueOf_43 : decode cX8_leagueOf 43 = .ok (.iload_n 2, 1) := by decide +kernel
theorem dX8_leagueOf_44 : decode cX8_leagueOf 44 = .ok (.iconst 1, 1) := by decide +kernel
theorem dX8_leagueOf_45 : decode cX8_leagueOf 45 = .ok (.iload_n 3, 1) := by decide +kernel
theorem dX8_leagueOf_46 : decode cX8_leagueOf 46 = .ok (.ishl, 1) := by decide +kernel
theorem dX8_leagueOf_47 : decode cX8_leagueOf 47 = .ok (.ior, 1) := by decide +kernel
theorem dX8_leagueOf_48 : decode cX8_leagueOf 48 = .ok (.istore_n 2, 1) := by decide +kernel
theorem dX8_leagueOf_49 : decode cX8_leagueOf 49 = .ok (.iinc 3 1, 3) := by decide +kernel
theorem dX8_leagueOf_52 : decode cX8_leagueOf 52 = .ok (.goto (-48), 3) := by decide +kernel
theorem dX8_leagueOf_55 : decode cX8_leagueOf 55 = .ok (.iload_n 2, 1) := by decide +kernel
theorem dX8_leagueOf_56 : decode cX8_leagueOf 56 = .ok (.ireturn, 1) := by decide +kernel
theorem dX8_areCold_0 : decode cX8_areCold 0 = .ok (.aload_n 0, 1) := by decide +kernel
theorem dX8_areCold_1 : decode cX8_areCold 1 = .ok (.iload_n 1, 1) := by decide +kernel
theorem dX8_areCold_2 : decode cX8_areCold 2 = .ok (.iload_n 2, 1) := by decide +kernel
theorem dX8_areCold_3 : decode cX8_areCold 3 = .ok (.invokevirtual 73, 3) := by decide +kernel
theorem dX8_areCold_6 : decode cX8_areCold 6 = .ok (.ifCond .eq 25, 3) := by decide +kernel
theorem dX8_areCold_9 : decode cX8_areCold 9 = .ok (.aload_n 0, 1) := by decide +kernel
theorem dX8_areCold_10 : decode cX8_areCold 10 = .ok (.iload_n 1, 1) := by decide +kernel
theorem dX8_areCold_11 : decode cX8_areCold 11 = .ok (.iload_n 2, 1) := by decide +kernel
theorem dX8_areCold_12 : decode cX8_areCold 12 = .ok (.invokevirtual 117, 3) := by decide +kernel
theorem dX8_areCold_15 : decode cX8_areCold 15 = .ok (.ifCond .ne 16, 3) := by decide +kernel
theorem dX8_areCold_18 : decode cX8_areCold 18 = .ok (.aload_n 0, 1) := by decide +kernel
theorem dX8_areCold_19 : decode cX8_areCold 19 = .ok (.iload_n 2, 1) := by decide +kernel
theorem dX8_areCold_20 : decode cX8_areCold 20 = .ok (.iload_n 1, 1) := by decide +kernel
theorem dX8_areCold_21 : decode cX8_areCold 21 = .ok (.invokevirtual 117, 3) := by decide +kernel
theorem dX8_areCold_24 : decode cX8_areCold 24 = .ok (.ifCond .ne 7, 3) := by decide +kernel
theorem dX8_areCold_27 : decode cX8_areCold 27 = .ok (.iconst 1, 1) := by decide +kernel
theorem dX8_areCold_28 : decode cX8_areCold 28 = .ok (.goto 4, 3) := by decide +kernel
theorem dX8_areCold_31 : decode cX8_areCold 31 = .ok (.iconst 0, 1) := by decide +kernel
theorem dX8_areCold_32 : decode cX8_areCold 32 = .ok (.ireturn, 1) := by decide +kernel
theorem dX8_countCold_0 : decode cX8_countCold 0 = .ok (.iconst 0, 1) := by decide +kernel
theorem dX8_countCold_1 : decode cX8_countCold 1 = .ok (.istore_n 1, 1) := by decide +kernel
theorem dX8_countCold_2 : decode cX8_countCold 2 = .ok (.iconst 0, 1) := by decide +kernel
theorem dX8_countCold_3 : decode cX8_countCold 3 = .ok (.istore_n 2, 1) := by decide +kernel
theorem dX8_countCold_4 : decode cX8_countCold 4 = .ok (.iload_n 2, 1) := by decide +kernel
theorem dX8_countCold_5 : decode cX8_countCold 5 = .ok (.aload_n 0, 1) := by decide +kernel
theorem dX8_countCold_6 : decode cX8_countCold 6 = .ok (.getfield 28, 3) := by decide +kernel
theorem dX8_countCold_9 : decode cX8_countCold 9 = .ok (.if_icmp .ge 44, 3) := by decide +kernel
theorem dX8_countCold_12 : decode cX8_countCold 12 = .ok (.iload_n 2, 1) := by decide +kernel
theorem dX8_countCold_13 : decode cX8_countCold 13 = .ok (.iconst 1, 1) := by decide +kernel
theorem dX8_countCold_14 : decode cX8_countCold 14 = .ok (.iadd, 1) := by decide +kernel
theorem dX8_countCold_15 : decode cX8_countCold 15 = .ok (.istore_n 3, 1) := by decide +kernel
theorem dX8_countCold_16 : decode cX8_countCold 16 = .ok (.iload_n 3, 1) := by decide +kernel
theorem dX8_countCold_17 : decode cX8_countCold 17 = .ok (.aload_n 0, 1) := by decide +kernel
theorem dX8_countCold_18 : decode cX8_countCold 18 = .ok (.getfield 28, 3) := by decide +kernel
theorem dX8_countCold_21 : decode cX8_countCold 21 = .ok (.if_icmp .ge 26, 3) := by decide +kernel
theorem dX8_countCold_24 : decode cX8_countCold 24 = .ok (.iload_n 1, 1) := by decide +kernel
theorem dX8_countCold_25 : decode cX8_countCold 25 = .ok (.aload_n 0, 1) := by decide +kernel
theorem dX8_countCold_26 : decode cX8_countCold 26 = .ok (.iload_n 2, 1) := by decide +kernel
theorem dX8_countCold_27 : decode cX8_countCold 27 = .ok (.iload_n 3, 1) := by decide +kernel
theorem dX8_countCold_28 : decode cX8_countCold 28 = .ok (.invokevirtual 120, 3) := by decide +kernel
theorem dX8_countCold_31 : decode cX8_countCold 31 = .ok (.ifCond .eq 7, 3) := by decide +kernel
theorem dX8_countCold_34 : decode cX8_countCold 34 = .ok (.iconst 1, 1) := by decide +kernel
theorem dX8_countCold_35 : decode cX8_countCold 35 = .ok (.goto 4, 3) := by decide +kernel
theorem dX8_countCold_38 : decode cX8_countCold 38 = .ok (.iconst 0, 1) := by decide +kernel
theorem dX8_countCold_39 : decode cX8_countCold 39 = .ok (.iadd, 1) := by decide +kernel
theorem dX8_countCold_40 : decode cX8_countCold 40 = .ok (.istore_n 1, 1) := by decide +kernel
theorem dX8_countCold_41 : decode cX8_countCold 41 = .ok (.iinc 3 1, 3) := by decide +kernel
theorem dX8_countCold_44 : decode cX8_countCold 44 = .ok (.goto (-28), 3) := by decide +kernel
theorem dX8_countCold_47 : decode cX8_countCold 47 = .ok (.iinc 2 1, 3) := by decide +kernel
theorem dX8_countCold_50 : decode cX8_countCold 50 = .ok (.goto (-46), 3) := by decide +kernel
theorem dX8_countCold_53 : decode cX8_countCold 53 = .ok (.iload_n 1, 1) := by decide +kernel
theorem dX8_countCold_54 : decode cX8_countCold 54 = .ok (.ireturn, 1) := by decide +kernel
theorem dX8_firstCold_0 : decode cX8_firstCold 0 = .ok (.iconst 0, 1) := by decide +kernel
theorem dX8_firstCold_1 : decode cX8_firstCold 1 = .ok (.istore_n 1, 1) := by decide +kernel
theorem dX8_firstCold_2 : decode cX8_firstCold 2 = .ok (.iload_n 1, 1) := by decide +kernel
theorem dX8_firstCold_3 : decode cX8_firstCold 3 = .ok (.aload_n 0, 1) := by decide +kernel
theorem dX8_firstCold_4 : decode cX8_firstCold 4 = .ok (.getfield 28, 3) := by decide +kernel
theorem dX8_firstCold_7 : decode cX8_firstCold 7 = .ok (.if_icmp .ge 43, 3) := by decide +kernel
theorem dX8_firstCold_10 : decode cX8_firstCold 10 = .ok (.iload_n 1, 1) := by decide +kernel
theorem dX8_firstCold_11 : decode cX8_firstCold 11 = .ok (.iconst 1, 1) := by decide +kernel
theorem dX8_firstCold_12 : decode cX8_firstCold 12 = .ok (.iadd, 1) := by decide +kernel
theorem dX8_firstCold_13 : decode cX8_firstCold 13 = .ok (.istore_n 2, 1) := by decide +kernel
theorem dX8_firstCold_14 : decode cX8_firstCold 14 = .ok (.iload_n 2, 1) := by decide +kernel
theorem dX8_firstCold_15 : decode cX8_firstCold 15 = .ok (.aload_n 0, 1) := by decide +kernel
theorem dX8_firstCold_16 : decode cX8_firstCold 16 = .ok (.getfield 28, 3) := by decide +kernel
theorem dX8_firstCold_19 : decode cX8_firstCold 19 = .ok (.if_icmp .ge 25, 3) := by decide +kernel
theorem dX8_firstCold_22 : decode cX8_firstCold 22 = .ok (.aload_n 0, 1) := by decide +kernel
theorem dX8_firstCold_23 : decode cX8_firstCold 23 = .ok (.iload_n 1, 1) := by decide +kernel
theorem dX8_firstCold_24 : decode cX8_firstCold 24 = .ok (.iload_n 2, 1) := by decide +kernel
theorem dX8_firstCold_25 : decode cX8_firstCold 25 = .ok (.invokevirtual 120, 3) := by decide +kernel
theorem dX8_firstCold_28 : decode cX8_firstCold 28 = .ok (.ifCond .eq 10, 3) := by decide +kernel
theorem dX8_firstCold_31 : decode cX8_firstCold 31 = .ok (.bipush 10, 2) := by decide +kernel
theorem dX8_firstCold_33 : decode cX8_firstCold 33 = .ok (.iload_n 1, 1) := by decide +kernel
theorem dX8_firstCold_34 : decode cX8_firstCold 34 = .ok (.imul, 1) := by decide +kernel
theorem dX8_firstCold_35 : decode cX8_firstCold 35 = .ok (.iload_n 2, 1) := by decide +kernel
theorem dX8_firstCold_36 : decode cX8_firstCold 36 = .ok (.iadd, 1) := by decide +kernel
theorem dX8_firstCold_37 : decode cX8_firstCold 37 = .ok (.ireturn, 1) := by decide +kernel
theorem dX8_firstCold_38 : decode cX8_firstCold 38 = .ok (.iinc 2 1, 3) := by decide +kernel
theorem dX8_firstCold_41 : decode cX8_firstCold 41 = .ok (.goto (-27), 3) := by decide +kernel
theorem dX8_firstCold_44 : decode cX8_firstCold 44 = .ok (.iinc 1 1, 3) := by decide +kernel
theorem dX8_firstCold_47 : decode cX8_firstCold 47 = .ok (.goto (-45), 3) := by decide +kernel
theorem dX8_firstCold_50 : decode cX8_firstCold 50 = .ok (.bipush (-9), 2) := by decide +kernel
theorem dX8_firstCold_52 : decode cX8_firstCold 52 = .ok (.ireturn, 1) := by decide +kernel
theorem dX8_leastRemembered_0 : decode cX8_leastRemembered 0 = .ok (.bipush (-9), 2) := by decide +kernel
theorem dX8_leastRemembered_2 : decode cX8_leastRemembered 2 = .ok (.istore_n 2, 1) := by decide +kernel
theorem dX8_leastRemembered_3 : decode cX8_leastRemembered 3 = .ok (.iconst 0, 1) := by decide +kernel
theorem dX8_leastRemembered_4 : decode cX8_leastRemembered 4 = .ok (.istore_n 3, 1) := by decide +kernel
theorem dX8_leastRemembered_5 : decode cX8_leastRemembered 5 = .ok (.iload_n 3, 1) := by decide +kernel
theorem dX8_leastRemembered_6 : decode cX8_leastRemembered 6 = .ok (.aload_n 0, 1) := by decide +kernel
theorem dX8_leastRemembered_7 : decode cX8_leastRemembered 7 = .ok (.getfield 28, 3) := by decide +kernel
theorem dX8_leastRemembered_10 : decode cX8_leastRemembered 10 = .ok (.if_icmp .ge 41, 3) := by decide +kernel
theorem dX8_leastRemembered_13 : decode cX8_leastRemembered 13 = .ok (.aload_n 0, 1) := by decide +kernel
theorem dX8_leastRemembered_14 : decode cX8_leastRemembered 14 = .ok (.iload_n 1, 1) := by decide +kernel
theorem dX8_leastRemembered_15 : decode cX8_leastRemembered 15 = .ok (.iload_n 3, 1) := by decide +kernel
theorem dX8_leastRemembered_16 : decode cX8_leastRemembered 16 = .ok (.invokevirtual 73, 3) := by decide +kernel
theorem dX8_leastRemembered_19 : decode cX8_leastRemembered 19 = .ok (.ifCond .eq 26, 3) := by decide +kernel
theorem dX8_leastRemembered_22 : decode cX8_leastRemembered 22 = .ok (.iload_n 2, 1) := by decide +kernel
theorem dX8_leastRemembered_23 : decode cX8_leastRemembered 23 = .ok (.bipush (-9), 2) := by decide +kernel
theorem dX8_leastRemembered_25 : decode cX8_leastRemembered 25 = .ok (.if_icmp .eq 18, 3) := by decide +kernel
theorem dX8_leastRemembered_28 : decode cX8_leastRemembered 28 = .ok (.aload_n 0, 1) := by decide +kernel
theorem dX8_leastRemembered_29 : decode cX8_leastRemembered 29 = .ok (.iload_n 1, 1) := by decide +kernel
theorem dX8_leastRemembered_30 : decode cX8_leastRemembered 30 = .ok (.iload_n 3, 1) := by decide +kernel
theorem dX8_leastRemembered_31 : decode cX8_leastRemembered 31 = .ok (.invokevirtual 117, 3) := by decide +kernel
theorem dX8_leastRemembered_34 : decode cX8_leastRemembered 34 = .ok (.aload_n 0, 1) := by decide +kernel
theorem dX8_leastRemembered_35 : decode cX8_leastRemembered 35 = .ok (.iload_n 1, 1) := by decide +kernel
theorem dX8_leastRemembered_36 : decode cX8_leastRemembered 36 = .ok (.iload_n 2, 1) := by decide +kernel
theorem dX8_leastRemembered_37 : decode cX8_leastRemembered 37 = .ok (.invokevirtual 117, 3) := by decide +kernel
theorem dX8_leastRemembered_40 : decode cX8_leastRemembered 40 = .ok (.if_icmp .ge 5, 3) := by decide +kernel
theorem dX8_leastRemembered_43 : decode cX8_leastRemembered 43 = .ok (.iload_n 3, 1) := by decide +kernel
theorem dX8_leastRemembered_44 : decode cX8_leastRemembered 44 = .ok (.istore_n 2, 1) := by decide +kernel
theorem dX8_leastRemembered_45 : decode cX8_leastRemembered 45 = .ok (.iinc 3 1, 3) := by decide +kernel
theorem dX8_leastRemembered_48 : decode cX8_leastRemembered 48 = .ok (.goto (-43), 3) := by decide +kernel
theorem dX8_leastRemembered_51 : decode cX8_leastRemembered 51 = .ok (.iload_n 2, 1) := by decide +kernel
theorem dX8_leastRemembered_52 : decode cX8_leastRemembered 52 = .ok (.ireturn, 1) := by decide +kernel
theorem dX8_memoryOverTheHill_0 : decode cX8_memoryOverTheHill 0 = .ok (.iconst 0, 1) := by decide +kernel
theorem dX8_memoryOverTheHill_1 : decode cX8_memoryOverTheHill 1 = .ok (.istore_n 1, 1) := by decide +kernel
theorem dX8_memoryOverTheHill_2 : decode cX8_memoryOverTheHill 2 = .ok (.iconst 0, 1) := by decide +kernel
theorem dX8_memoryOverTheHill_3 : decode cX8_memoryOverTheHill 3 = .ok (.istore_n 2, 1) := by decide +kernel
theorem dX8_memoryOverTheHill_4 : decode cX8_memoryOverTheHill 4 = .ok (.iload_n 2, 1) := by decide +kernel
theorem dX8_memoryOverTheHill_5 : decode cX8_memoryOverTheHill 5 = .ok (.aload_n 0, 1) := by decide +kernel
theorem dX8_memoryOverTheHill_6 : decode cX8_memoryOverTheHill 6 = .ok (.getfield 28, 3) := by decide +kernel
theorem dX8_memoryOverTheHill_9 : decode cX8_memoryOverTheHill 9 = .ok (.if_icmp .ge 61, 3) := by decide +kernel
theorem dX8_memoryOverTheHill_12 : decode cX8_memoryOverTheHill 12 = .ok (.iconst 0, 1) := by decide +kernel
theorem dX8_memoryOverTheHill_13 : decode cX8_memoryOverTheHill 13 = .ok (.istore_n 3, 1) := by decide +kernel
theorem dX8_memoryOverTheHill_14 : decode cX8_memoryOverTheHill 14 = .ok (.iload_n 3, 1) := by decide +kernel
theorem dX8_memoryOverTheHill_15 : decode cX8_memoryOverTheHill 15 = .ok (.aload_n 0, 1) := by decide +kernel
theorem dX8_memoryOverTheHill_16 : decode cX8_memoryOverTheHill 16 = .ok (.getfield 28, 3) := by decide +kernel
theorem dX8_memoryOverTheHill_19 : decode cX8_memoryOverTheHill 19 = .ok (.if_icmp .ge 45, 3) := by decide +kernel
theorem dX8_memoryOverTheHill_22 : decode cX8_memoryOverTheHill 22 = .ok (.iload_n 1, 1) := by decide +kernel
theorem dX8_memoryOverTheHill_23 : decode cX8_memoryOverTheHill 23 = .ok (.iload_n 2, 1) := by decide +kernel
theorem dX8_memoryOverTheHill_24 : decode cX8_memoryOverTheHill 24 = .ok (.iload_n 3, 1) := by decide +kernel
theorem dX8_memoryOverTheHill_25 : decode cX8_memoryOverTheHill 25 = .ok (.if_icmp .eq 30, 3) := by decide +kernel
theorem dX8_memoryOverTheHill_28 : decode cX8_memoryOverTheHill 28 = .ok (.aload_n 0, 1) := by decide +kernel
theorem dX8_memoryOverTheHill_29 : decode cX8_memoryOverTheHill 29 = .ok (.getfield 21, 3) := by decide +kernel
theorem dX8_memoryOverTheHill_32 : decode cX8_memoryOverTheHill 32 = .ok (.iload_n 2, 1) := by decide +kernel
theorem dX8_memoryOverTheHill_33 : decode cX8_memoryOverTheHill 33 = .ok (.baload, 1) := by decide +kernel
theorem dX8_memoryOverTheHill_34 : decode cX8_memoryOverTheHill 34 = .ok (.ifCond .ne 21, 3) := by decide +kernel
theorem dX8_memoryOverTheHill_37 : decode cX8_memoryOverTheHill 37 = .ok (.aload_n 0, 1) := by decide +kernel
theorem dX8_memoryOverTheHill_38 : decode cX8_memoryOverTheHill 38 = .ok (.getfield 21, 3) := by decide +kernel
theorem dX8_memoryOverTheHill_41 : decode cX8_memoryOverTheHill 41 = .ok (.iload_n 3, 1) := by decide +kernel
theorem dX8_memoryOverTheHill_42 : decode cX8_memoryOverTheHill 42 = .ok (.baload, 1) := by decide +kernel
theorem dX8_memoryOverTheHill_43 : decode cX8_memoryOverTheHill 43 = .ok (.ifCond .ne 12, 3) := by decide +kernel
theorem dX8_memoryOverTheHill_46 : decode cX8_memoryOverTheHill 46 = .ok (.aload_n 0, 1) := by decide +kernel
theorem dX8_memoryOverTheHill_47 : decode cX8_memoryOverTheHill 47 = .ok (.iload_n 2, 1) := by decide +kernel
theorem dX8_memoryOverTheHill_48 : decode cX8_memoryOverTheHill 48 = .ok (.iload_n 3, 1) := by decide +kernel
theorem dX8_memoryOverTheHill_49 : decode cX8_memoryOverTheHill 49 = .ok (.invokevirtual 117, 3) := by decide +kernel
theorem dX8_memoryOverTheHill_52 : decode cX8_memoryOverTheHill 52 = .ok (.goto 4, 3) := by decide +kernel
theorem dX8_memoryOverTheHill_55 : decode cX8_memoryOverTheHill 55 = .ok (.iconst 0, 1) := by decide +kernel
theorem dX8_memoryOverTheHill_56 : decode cX8_memoryOverTheHill 56 = .ok (.iadd, 1) := by decide +kernel
theorem dX8_memoryOverTheHill_57 : decode cX8_memoryOverTheHill 57 = .ok (.istore_n 1, 1) := by decide +kernel
theorem dX8_memoryOverTheHill_58 : decode cX8_memoryOverTheHill 58 = .ok (.iinc 3 1, 3) := by decide +kernel
theorem dX8_memoryOverTheHill_61 : decode cX8_memoryOverTheHill 61 = .ok (.goto (-47), 3) := by decide +kernel
theorem dX8_memoryOverTheHill_64 : decode cX8_memoryOverTheHill 64 = .ok (.iinc 2 1, 3) := by decide +kernel
theorem dX8_memoryOverTheHill_67 : decode cX8_memoryOverTheHill 67 = .ok (.goto (-63), 3) := by decide +kernel
theorem dX8_memoryOverTheHill_70 : decode cX8_memoryOverTheHill 70 = .ok (.iload_n 1, 1) := by decide +kernel
theorem dX8_memoryOverTheHill_71 : decode cX8_memoryOverTheHill 71 = .ok (.ireturn, 1) := by decide +kernel
theorem dX8_passUntilForgotten_0 : decode cX8_passUntilForgotten 0 = .ok (.iconst 0, 1) := by decide +kernel
theorem dX8_passUntilForgotten_1 : decode cX8_passUntilForgotten 1 = .ok (.istore_n 2, 1) := by decide +kernel
theorem dX8_passUntilForgotten_2 : decode cX8_passUntilForgotten 2 = .ok (.iload_n 2, 1) := by decide +kernel
theorem dX8_passUntilForgotten_3 : decode cX8_passUntilForgotten 3 = .ok (.bipush 99, 2) := by decide +kernel
theorem dX8_passUntilForgotten_5 : decode cX8_passUntilForgotten 5 = .ok (.if_icmp .gt 24, 3) := by decide +kernel
theorem dX8_passUntilForgotten_8 : decode cX8_passUntilForgotten 8 = .ok (.aload_n 0, 1) := by decide +kernel
theorem dX8_passUntilForgotten_9 : decode cX8_passUntilForgotten 9 = .ok (.getfield 21, 3) := by decide +kernel
theorem dX8_passUntilForgotten_12 : decode cX8_passUntilForgotten 12 = .ok (.iload_n 1, 1) := by decide +kernel
theorem dX8_passUntilForgotten_13 : decode cX8_passUntilForgotten 13 = .ok (.baload, 1) := by decide +kernel
theorem dX8_passUntilForgotten_14 : decode cX8_passUntilForgotten 14 = .ok (.ifCond .ne 5, 3) := by decide +kernel
theorem dX8_passUntilForgotten_17 : decode cX8_passUntilForgotten 17 = .ok (.iload_n 2, 1) := by decide +kernel
theorem dX8_passUntilForgotten_18 : decode cX8_passUntilForgotten 18 = .ok (.ireturn, 1) := by decide +kernel
theorem dX8_passUntilForgotten_19 : decode cX8_passUntilForgotten 19 = .ok (.aload_n 0, 1) := by decide +kernel
theorem dX8_passUntilForgotten_20 : decode cX8_passUntilForgotten 20 = .ok (.invokevirtual 87, 3) := by decide +kernel
theorem dX8_passUntilForgotten_23 : decode cX8_passUntilForgotten 23 = .ok (.iinc 2 1, 3) := by decide +kernel
theorem dX8_passUntilForgotten_26 : decode cX8_passUntilForgotten 26 = .ok (.goto (-24), 3) := by decide +kernel
theorem dX8_passUntilForgotten_29 : decode cX8_passUntilForgotten 29 = .ok (.bipush 100, 2) := by decide +kernel
theorem dX8_passUntilForgotten_31 : decode cX8_passUntilForgotten 31 = .ok (.ireturn, 1) := by decide +kernel
theorem dX8_keeps_0 : decode cX8_keeps 0 = .ok (.iconst 0, 1) := by decide +kernel
theorem dX8_keeps_1 : decode cX8_keeps 1 = .ok (.istore_n 3, 1) := by decide +kernel
theorem dX8_keeps_2 : decode cX8_keeps 2 = .ok (.iload_n 3, 1) := by decide +kernel
theorem dX8_keeps_3 : decode cX8_keeps 3 = .ok (.iload_n 2, 1) := by decide +kernel
theorem dX8_keeps_4 : decode cX8_keeps 4 = .ok (.if_icmp .ge 22, 3) := by decide +kernel
theorem dX8_keeps_7 : decode cX8_keeps 7 = .ok (.aload_n 0, 1) := by decide +kernel
theorem dX8_keeps_8 : decode cX8_keeps 8 = .ok (.getfield 21, 3) := by decide +kernel
theorem dX8_keeps_11 : decode cX8_keeps 11 = .ok (.iload_n 1, 1) := by decide +kernel
theorem dX8_keeps_12 : decode cX8_keeps 12 = .ok (.baload, 1) := by decide +kernel
theorem dX8_keeps_13 : decode cX8_keeps 13 = .ok (.ifCond .eq 13, 3) := by decide +kernel
theorem dX8_keeps_16 : decode cX8_keeps 16 = .ok (.aload_n 0, 1) := by decide +kernel
theorem dX8_keeps_17 : decode cX8_keeps 17 = .ok (.invokevirtual 87, 3) := by decide +kernel
theorem dX8_keeps_20 : decode cX8_keeps 20 = .ok (.iinc 3 1, 3) := by decide +kernel
theorem dX8_keeps_23 : decode cX8_keeps 23 = .ok (.goto (-21), 3) := by decide +kernel
theorem dX8_keeps_26 : decode cX8_keeps 26 = .ok (.aload_n 0, 1) := by decide +kernel
theorem dX8_keeps_27 : decode cX8_keeps 27 = .ok (.getfield 21, 3) := by decide +kernel
theorem dX8_keeps_30 : decode cX8_keeps 30 = .ok (.iload_n 1, 1) := by decide +kernel
theorem dX8_keeps_31 : decode cX8_keeps 31 = .ok (.baload, 1) := by decide +kernel
theorem dX8_keeps_32 : decode cX8_keeps 32 = .ok (.ireturn, 1) := by decide +kernel
theorem dX9_init_0 : decode cX9_init 0 = .ok (.aload_n 0, 1) := by decide +kernel
theorem dX9_init_1 : decode cX9_init 1 = .ok (.invokespecial 1, 3) := by decide +kernel
theorem dX9_init_4 : decode cX9_init 4 = .ok (.return_, 1) := by decide +kernel
theorem dX9_change_0 : decode cX9_change 0 = .ok (.aload_n 0, 1) := by decide +kernel
theorem dX9_change_1 : decode cX9_change 1 = .ok (.iload_n 1, 1) := by decide +kernel
theorem dX9_change_2 : decode cX9_change 2 = .ok (.iload_n 2, 1) := by decide +kernel
theorem dX9_change_3 : decode cX9_change 3 = .ok (.iload_n 3, 1) := by decide +kernel
theorem dX9_change_4 : decode cX9_change 4 = .ok (.invokespecial 7, 3) := by decide +kernel
theorem dX9_change_7 : decode cX9_change 7 = .ok (.iload_n 1, 1) := by decide +kernel
theorem dX9_change_8 : decode cX9_change 8 = .ok (.iconst 2, 1) := by decide +kernel
theorem dX9_change_9 : decode cX9_change 9 = .ok (.irem, 1) := by decide +kernel
theorem dX9_change_10 : decode cX9_change 10 = .ok (.iconst 1, 1) := by decide +kernel
theorem dX9_change_11 : decode cX9_change 11 = .ok (.if_icmp .ne 7, 3) := by decide +kernel
theorem dX9_change_14 : decode cX9_change 14 = .ok (.iconst 2, 1) := by decide +kernel
theorem dX9_change_15 : decode cX9_change 15 = .ok (.goto 4, 3) := by decide +kernel
theorem dX9_change_18 : decode cX9_change 18 = .ok (.iconst 0, 1) := by decide +kernel
theorem dX9_change_19 : decode cX9_change 19 = .ok (.iadd, 1) := by decide +kernel
theorem dX9_change_20 : decode cX9_change 20 = .ok (.ireturn, 1) := by decide +kernel
theorem dX9_isNamed_0 : decode cX9_isNamed 0 = .ok (.iload_n 1, 1) := by decide +kernel
theorem dX9_isNamed_1 : decode cX9_isNamed 1 = .ok (.iconst 5, 1) := by decide +kernel
theorem dX9_isNamed_2 : decode cX9_isNamed 2 = .ok (.if_icmp .ge 7, 3) := by decide +kernel
theorem dX9_isNamed_5 : decode cX9_isNamed 5 = .ok (.iconst 1, 1) := by decide +kernel
theorem dX9_isNamed_6 : decode cX9_isNamed 6 = .ok (.goto 4, 3) := by decide +kernel
theorem dX9_isNamed_9 : decode cX9_isNamed 9 = .ok (.iconst 0, 1) := by decide +kernel
theorem dX9_isNamed_10 : decode cX9_isNamed 10 = .ok (.ireturn, 1) := by decide +kernel
theorem dX10_init_0 : decode cX10_init 0 = .ok (.aload_n 0, 1) := by decide +kernel
theorem dX10_init_1 : decode cX10_init 1 = .ok (.invokespecial 3, 3) := by decide +kernel
theorem dX10_init_4 : decode cX10_init 4 = .ok (.bipush 6, 2) := by decide +kernel
theorem dX10_init_6 : decode cX10_init 6 = .ok (.anewarray 9, 3) := by decide +kernel
theorem dX10_init_9 : decode cX10_init 9 = .ok (.dup, 1) := by decide +kernel
theorem dX10_init_10 : decode cX10_init 10 = .ok (.iconst 0, 1) := by decide +kernel
theorem dX10_init_11 : decode cX10_init 11 = .ok (.new 9, 3) := by decide +kernel
theorem dX10_init_14 : decode cX10_init 14 = .ok (.dup, 1) := by decide +kernel
theorem dX10_init_15 : decode cX10_init 15 = .ok (.invokespecial 11, 3) := by decide +kernel
theorem dX10_init_18 : decode cX10_init 18 = .ok (.aastore, 1) := by decide +kernel
theorem dX10_init_19 : decode cX10_init 19 = .ok (.dup, 1) := by decide +kernel
theorem dX10_init_20 : decode cX10_init 20 = .ok (.iconst 1, 1) := by decide +kernel
theorem dX10_init_21 : decode cX10_init 21 = .ok (.new 12, 3) := by decide +kernel
theorem dX10_init_24 : decode cX10_init 24 = .ok (.dup, 1) := by decide +kernel
theorem dX10_init_25 : decode cX10_init 25 = .ok (.invokespecial 14, 3) := by decide +kernel
theorem dX10_init_28 : decode cX10_init 28 = .ok (.aastore, 1) := by decide +kernel
theorem dX10_init_29 : decode cX10_init 29 = .ok (.dup, 1) := by decide +kernel
theorem dX10_init_30 : decode cX10_init 30 = .ok (.iconst 2, 1) := by decide +kernel
theorem dX10_init_31 : decode cX10_init 31 = .ok (.new 15, 3) := by decide +kernel
theorem dX10_init_34 : decode cX10_init 34 = .ok (.dup, 1) := by decide +kernel
theorem dX10_init_35 : decode cX10_init 35 = .ok (.invokespecial 17, 3) := by decide +kernel
theorem dX10_init_38 : decode cX10_init 38 = .ok (.aastore, 1) := by decide +kernel
theorem dX10_init_39 : decode cX10_init 39 = .ok (.dup, 1) := by decide +kernel
theorem dX10_init_40 : decode cX10_init 40 = .ok (.iconst 3, 1) := by decide +kernel
theorem dX10_init_41 : decode cX10_init 41 = .ok (.new 18, 3) := by decide +kernel
theorem dX10_init_44 : decode cX10_init 44 = .ok (.dup, 1) := by decide +kernel
theorem dX10_init_45 : decode cX10_init 45 = .ok (.invokespecial 20, 3) := by decide +kernel
theorem dX10_init_48 : decode cX10_init 48 = .ok (.aastore, 1) := by decide +kernel
theorem dX10_init_49 : decode cX10_init 49 = .ok (.dup, 1) := by decide +kernel
theorem dX10_init_50 : decode cX10_init 50 = .ok (.iconst 4, 1) := by decide +kernel
theorem dX10_init_51 : decode cX10_init 51 = .ok (.new 21, 3) := by decide +kernel
theorem dX10_init_54 : decode cX10_init 54 = .ok (.dup, 1) := by decide +kernel
theorem dX10_init_55 : decode cX10_init 55 = .ok (.invokespecial 23, 3) := by decide +kernel
theorem dX10_init_58 : decode cX10_init 58 = .ok (.aastore, 1) := by decide +kernel
theorem dX10_init_59 : decode cX10_init 59 = .ok (.dup, 1) := by decide +kernel
theorem dX10_init_60 : decode cX10_init 60 = .ok (.iconst 5, 1) := by decide +kernel
theorem dX10_init_61 : decode cX10_init 61 = .ok (.new 24, 3) := by decide +kernel
theorem dX10_init_64 : decode cX10_init 64 = .ok (.dup, 1) := by decide +kernel
theorem dX10_init_65 : decode cX10_init 65 = .ok (.invokespecial 26, 3) := by decide +kernel
theorem dX10_init_68 : decode cX10_init 68 = .ok (.aastore, 1) := by decide +kernel
theorem dX10_init_69 : decode cX10_init 69 = .ok (.astore_n 1, 1) := by decide +kernel
theorem dX10_init_70 : decode cX10_init 70 = .ok (.aload_n 0, 1) := by decide +kernel
theorem dX10_init_71 : decode cX10_init 71 = .ok (.new 27, 3) := by decide +kernel
theorem dX10_init_74 : decode cX10_init 74 = .ok (.dup, 1) := by decide +kernel
theorem dX10_init_75 : decode cX10_init 75 = .ok (.aload_n 1, 1) := by decide +kernel
theorem dX10_init_76 : decode cX10_init 76 = .ok (.invokespecial 29, 3) := by decide +kernel
theorem dX10_init_79 : decode cX10_init 79 = .ok (.putfield 32, 3) := by decide +kernel
theorem dX10_init_82 : decode cX10_init 82 = .ok (.aload_n 0, 1) := by decide +kernel
theorem dX10_init_83 : decode cX10_init 83 = .ok (.new 27, 3) := by decide +kernel
theorem dX10_init_86 : decode cX10_init 86 = .ok (.dup, 1) := by decide +kernel
theorem dX10_init_87 : decode cX10_init 87 = .ok (.aload_n 1, 1) := by decide +kernel
theorem dX10_init_88 : decode cX10_init 88 = .ok (.invokespecial 29, 3) := by decide +kernel
theorem dX10_init_91 : decode cX10_init 91 = .ok (.putfield 36, 3) := by decide +kernel
theorem dX10_init_94 : decode cX10_init 94 = .ok (.aload_n 0, 1) := by decide +kernel
theorem dX10_init_95 : decode cX10_init 95 = .ok (.new 27, 3) := by decide +kernel
theorem dX10_init_98 : decode cX10_init 98 = .ok (.dup, 1) := by decide +kernel
theorem dX10_init_99 : decode cX10_init 99 = .ok (.aload_n 1, 1) := by decide +kernel
theorem dX10_init_100 : decode cX10_init 100 = .ok (.invokespecial 29, 3) := by decide +kernel
theorem dX10_init_103 : decode cX10_init 103 = .ok (.putfield 39, 3) := by decide +kernel
theorem dX10_init_106 : decode cX10_init 106 = .ok (.aload_n 0, 1) := by decide +kernel
theorem dX10_init_107 : decode cX10_init 107 = .ok (.new 42, 3) := by decide +kernel
theorem dX10_init_110 : decode cX10_init 110 = .ok (.dup, 1) := by decide +kernel
theorem dX10_init_111 : decode cX10_init 111 = .ok (.aload_n 0, 1) := by decide +kernel
theorem dX10_init_112 : decode cX10_init 112 = .ok (.getfield 32, 3) := by decide +kernel
theorem dX10_init_115 : decode cX10_init 115 = .ok (.aload_n 1, 1) := by decide +kernel
theorem dX10_init_116 : decode cX10_init 116 = .ok (.invokespecial 44, 3) := by decide +kernel
theorem dX10_init_119 : decode cX10_init 119 = .ok (.putfield 47, 3) := by decide +kernel
theorem dX10_init_122 : decode cX10_init 122 = .ok (.aload_n 0, 1) := by decide +kernel
theorem dX10_init_123 : decode cX10_init 123 = .ok (.new 51, 3) := by decide +kernel
theorem dX10_init_126 : decode cX10_init 126 = .ok (.dup, 1) := by decide +kernel
theorem dX10_init_127 : decode cX10_init 127 = .ok (.invokespecial 53, 3) := by decide +kernel
theorem dX10_init_130 : decode cX10_init 130 = .ok (.putfield 54, 3) := by decide +kernel
theorem dX10_init_133 : decode cX10_init 133 = .ok (.aload_n 0, 1) := by decide +kernel
theorem dX10_init_134 : decode cX10_init 134 = .ok (.new 58, 3) := by decide +kernel
theorem dX10_init_137 : decode cX10_init 137 = .ok (.dup, 1) := by decide +kernel
theorem dX10_init_138 : decode cX10_init 138 = .ok (.invokespecial 60, 3) := by decide +kernel
theorem dX10_init_141 : decode cX10_init 141 = .ok (.putfield 61, 3) := by decide +kernel
theorem dX10_init_144 : decode cX10_init 144 = .ok (.aload_n 0, 1) := by decide +kernel
theorem dX10_init_145 : decode cX10_init 145 = .ok (.bipush 7, 2) := by decide +kernel
theorem dX10_init_147 : decode cX10_init 147 = .ok (.newarray .int, 2) := by decide +kernel
theorem dX10_init_149 : decode cX10_init 149 = .ok (.putfield 65, 3) := by decide +kernel
theorem dX10_init_152 : decode cX10_init 152 = .ok (.aload_n 0, 1) := by decide +kernel
theorem dX10_init_153 : decode cX10_init 153 = .ok (.iconst 0, 1) := by decide +kernel
theorem dX10_init_154 : decode cX10_init 154 = .ok (.putfield 69, 3) := by decide +kernel
theorem dX10_init_157 : decode cX10_init 157 = .ok (.return_, 1) := by decide +kernel
theorem dX10_letter_0 : decode cX10_letter 0 = .ok (.aload_n 0, 1) := by decide +kernel
theorem dX10_letter_1 : decode cX10_letter 1 = .ok (.iload_n 1, 1) := by decide +kernel
theorem dX10_letter_2 : decode cX10_letter 2 = .ok (.iconst 0, 1) := by decide +kernel
theorem dX10_letter_3 : decode cX10_letter 3 = .ok (.sipush 255, 3) := by decide +kernel
theorem dX10_letter_6 : decode cX10_letter 6 = .ok (.invokestatic 73, 3) := by decide +kernel
theorem dX10_letter_9 : decode cX10_letter 9 = .ok (.aload_n 0, 1) := by decide +kernel
theorem dX10_letter_10 : decode cX10_letter 10 = .ok (.getfield 54, 3) := by decide +kernel
theorem dX10_letter_13 : decode cX10_letter 13 = .ok (.invokevirtual 77, 3) := by decide +kernel
theorem dX10_letter_16 : decode cX10_letter 16 = .ok (.ifCond .eq 8, 3) := by decide +kernel
theorem dX10_letter_19 : decode cX10_letter 19 = .ok (.bipush (-6), 2) := by decide +kernel
theorem dX10_letter_21 : decode cX10_letter 21 = .ok (.goto 4, 3) := by decide +kernel
theorem dX10_letter_24 : decode cX10_letter 24 = .ok (.iconst 0, 1) := by decide +kernel
theorem dX10_letter_25 : decode cX10_letter 25 = .ok (.invokevirtual 81, 3) := by decide +kernel
theorem dX10_letter_28 : decode cX10_letter 28 = .ok (.istore_n 2, 1) := by decide +kernel
theorem dX10_letter_29 : decode cX10_letter 29 = .ok (.iload_n 2, 1) := by decide +kernel
theorem dX10_letter_30 : decode cX10_letter 30 = .ok (.ifCond .eq 7, 3) := by decide +kernel
theorem dX10_letter_33 : decode cX10_letter 33 = .ok (.iload_n 2, 1) := by decide +kernel
theorem dX10_letter_34 : decode cX10_letter 34 = .ok (.goto 11, 3) := by decide +kernel
theorem dX10_letter_37 : decode cX10_letter 37 = .ok (.aload_n 0, 1) := by decide +kernel
theorem dX10_letter_38 : decode cX10_letter 38 = .ok (.getfield 54, 3) := by decide +kernel
theorem dX10_letter_41 : decode cX10_letter 41 = .ok (.iload_n 1, 1) := by decide +kernel
theorem dX10_letter_42 : decode cX10_letter 42 = .ok (.invokevirtual 85, 3) := by decide +kernel
theorem dX10_letter_45 : decode cX10_letter 45 = .ok (.ireturn, 1) := by decide +kernel
theorem dX10_valley_0 : decode cX10_valley 0 = .ok (.aload_n 0, 1) := by decide +kernel
theorem dX10_valley_1 : decode cX10_valley 1 = .ok (.getfield 39, 3) := by decide +kernel
theorem dX10_valley_4 : decode cX10_valley 4 = .ok (.aload_n 0, 1) := by decide +kernel
theorem dX10_valley_5 : decode cX10_valley 5 = .ok (.getfield 32, 3) := by decide +kernel
theorem dX10_valley_8 : decode cX10_valley 8 = .ok (.invokevirtual 89, 3) := by decide +kernel
theorem dX10_valley_11 : decode cX10_valley 11 = .ok (.aload_n 0, 1) := by decide +kernel
theorem dX10_valley_12 : decode cX10_valley 12 = .ok (.getfield 54, 3) := by decide +kernel
theorem dX10_valley_15 : decode cX10_valley 15 = .ok (.aload_n 0, 1) := by decide +kernel
theorem dX10_valley_16 : decode cX10_valley 16 = .ok (.getfield 39, 3) := by decide +kernel
theorem dX10_valley_19 : decode cX10_valley 19 = .ok (.invokevirtual 93, 3) := by decide +kernel
theorem dX10_valley_22 : decode cX10_valley 22 = .ok (.istore_n 1, 1) := by decide +kernel
theorem dX10_valley_23 : decode cX10_valley 23 = .ok (.aload_n 0, 1) := by decide +kernel
theorem dX10_valley_24 : decode cX10_valley 24 = .ok (.getfield 54, 3) := by decide +kernel
theorem dX10_valley_27 : decode cX10_valley 27 = .ok (.invokevirtual 97, 3) := by decide +kernel
theorem dX10_valley_30 : decode cX10_valley 30 = .ok (.iload_n 1, 1) := by decide +kernel
theorem dX10_valley_31 : decode cX10_valley 31 = .ok (.ifCond .le 14, 3) := by decide +kernel
theorem dX10_valley_34 : decode cX10_valley 34 = .ok (.aload_n 0, 1) := by decide +kernel
theorem dX10_valley_35 : decode cX10_valley 35 = .ok (.getfield 32, 3) := by decide +kernel
theorem dX10_valley_38 : decode cX10_valley 38 = .ok (.aload_n 0, 1) := by decide +kernel
theorem dX10_valley_39 : decode cX10_valley 39 = .ok (.getfield 39, 3) := by decide +kernel
theorem dX10_valley_42 : decode cX10_valley 42 = .ok (.invokevirtual 89, 3) := by decide +kernel
theorem dX10_valley_45 : decode cX10_valley 45 = .ok (.iload_n 1, 1) := by decide +kernel
theorem dX10_valley_46 : decode cX10_valley 46 = .ok (.ireturn, 1) := by decide +kernel
theorem dX10_person_0 : decode cX10_person 0 = .ok (.aload_n 0, 1) := by decide +kernel
theorem dX10_person_1 : decode cX10_person 1 = .ok (.aload_n 0, 1) := by decide +kernel
theorem dX10_person_2 : decode cX10_person 2 = .ok (.iload_n 1, 1) := by decide +kernel
theorem dX10_person_3 : decode cX10_person 3 = .ok (.invokevirtual 100, 3) := by decide +kernel
theorem dX10_person_6 : decode cX10_person 6 = .ok (.iload_n 2, 1) := by decide +kernel
theorem dX10_person_7 : decode cX10_person 7 = .ok (.iconst 5, 1) := by decide +kernel
theorem dX10_person_8 : decode cX10_person 8 = .ok (.invokestatic 103, 3) := by decide +kernel
theorem dX10_person_11 : decode cX10_person 11 = .ok (.invokevirtual 81, 3) := by decide +kernel
theorem dX10_person_14 : decode cX10_person 14 = .ok (.istore_n 3, 1) := by decide +kernel
theorem dX10_person_15 : decode cX10_person 15 = .ok (.iload_n 3, 1) := by decide +kernel
theorem dX10_person_16 : decode cX10_person 16 = .ok (.ifCond .eq 5, 3) := by decide +kernel
theorem dX10_person_19 : decode cX10_person 19 = .ok (.iload_n 3, 1) := by decide +kernel
theorem dX10_person_20 : decode cX10_person 20 = .ok (.ireturn, 1) := by decide +kernel
theorem dX10_person_21 : decode cX10_person 21 = .ok (.iload_n 2, 1) := by decide +kernel
theorem dX10_person_22 : decode cX10_person 22 = .ok (.tableswitch 91 0 4 #[34, 44, 54, 72, 82], 34) := by decide +kernel
theorem dX10_person_56 : decode cX10_person 56 = .ok (.aload_n 0, 1) := by decide +kernel
theorem dX10_person_57 : decode cX10_person 57 = .ok (.getfield 32, 3) := by decide +kernel
theorem dX10_person_60 : decode cX10_person 60 = .ok (.getfield 106, 3) := by decide +kernel
theorem dX10_person_63 : decode cX10_person 63 = .ok (.iload_n 1, 1) := by decide +kernel
theorem dX10_person_64 : decode cX10_person 64 = .ok (.iaload, 1) := by decide +kernel
theorem dX10_person_65 : decode cX10_person 65 = .ok (.ireturn, 1) := by decide +kernel
theorem dX10_person_66 : decode cX10_person 66 = .ok (.aload_n 0, 1) := by decide +kernel
theorem dX10_person_67 : decode cX10_person 67 = .ok (.getfield 32, 3) := by decide +kernel
theorem dX10_person_70 : decode cX10_person 70 = .ok (.getfield 109, 3) := by decide +kernel
theorem dX10_person_73 : decode cX10_person 73 = .ok (.iload_n 1, 1) := by decide +kernel
theorem dX10_person_74 : decode cX10_person 74 = .ok (.iaload, 1) := by decide +kernel
theorem dX10_person_75 : decode cX10_person 75 = .ok (.ireturn, 1) := by decide +kernel
theorem dX10_person_76 : decode cX10_person 76 = .ok (.aload_n 0, 1) := by decide +kernel
theorem dX10_person_77 : decode cX10_person 77 = .ok (.getfield 32, 3) := by decide +kernel
theorem dX10_person_80 : decode cX10_person 80 = .ok (.getfield 112, 3) := by decide +kernel
theorem dX10_person_83 : decode cX10_person 83 = .ok (.iload_n 1, 1) := by decide +kernel
theorem dX10_person_84 : decode cX10_person 84 = .ok (.baload, 1) := by decide +kernel
theorem dX10_person_85 : decode cX10_person 85 = .ok (.ifCond .eq 7, 3) := by decide +kernel
theorem dX10_person_88 : decode cX10_person 88 = .ok (.iconst 1, 1) := by decide +kernel
theorem dX10_person_89 : decode cX10_person 89 = .ok (.goto 4, 3) := by decide +kernel
theorem dX10_person_92 : decode cX10_person 92 = .ok (.iconst 0, 1) := by decide +kernel
theorem dX10_person_93 : decode cX10_person 93 = .ok (.ireturn, 1) := by decide +kernel
theorem dX10_person_94 : decode cX10_person 94 = .ok (.aload_n 0, 1) := by decide +kernel
theorem dX10_person_95 : decode cX10_person 95 = .ok (.getfield 32, 3) := by decide +kernel
theorem dX10_person_98 : decode cX10_person 98 = .ok (.getfield 116, 3) := by decide +kernel
theorem dX10_person_101 : decode cX10_person 101 = .ok (.iload_n 1, 1) := by decide +kernel
theorem dX10_person_102 : decode cX10_person 102 = .ok (.iaload, 1) := by decide +kernel
theorem dX10_person_103 : decode cX10_person 103 = .ok (.ireturn, 1) := by decide +kernel
theorem dX10_person_104 : decode cX10_person 104 = .ok (.aload_n 0, 1) := by decide +kernel
theorem dX10_person_105 : decode cX10_person 105 = .ok (.getfield 32, 3) := by decide +kernel
theorem dX10_person_108 : decode cX10_person 108 = .ok (.iload_n 1, 1) := by decide +kernel
theorem dX10_person_109 : decode cX10_person 109 = .ok (.invokevirtual 119, 3) := by decide +kernel
theorem dX10_person_112 : decode cX10_person 112 = .ok (.ireturn, 1) := by decide +kernel
theorem dX10_person_113 : decode cX10_person 113 = .ok (.aload_n 0, 1) := by decide +kernel
theorem dX10_person_114 : decode cX10_person 114 = .ok (.getfield 32, 3) := by decide +kernel
theorem dX10_person_117 : decode cX10_person 117 = .ok (.iload_n 1, 1) := by decide +kernel
theorem dX10_person_118 : decode cX10_person 118 = .ok (.invokevirtual 122, 3) := by decide +kernel
theorem dX10_person_121 : decode cX10_person 121 = .ok (.ifCond .eq 7, 3) := by decide +kernel
theorem dX10_person_124 : decode cX10_person 124 = .ok (.iconst 1, 1) := by decide +kernel
theorem dX10_person_125 : decode cX10_person 125 = .ok (.goto 4, 3) := by decide +kernel
theorem dX10_person_128 : decode cX10_person 128 = .ok (.iconst 0, 1) := by decide +kernel
theorem dX10_person_129 : decode cX10_person 129 = .ok (.ireturn, 1) := by decide +kernel
theorem dX10_memory_0 : decode cX10_memory 0 = .ok (.aload_n 0, 1) := by decide +kernel
theorem dX10_memory_1 : decode cX10_memory 1 = .ok (.aload_n 0, 1) := by decide +kernel
theorem dX10_memory_2 : decode cX10_memory 2 = .ok (.iload_n 1, 1) := by decide +kernel
theorem dX10_memory_3 : decode cX10_memory 3 = .ok (.iload_n 2, 1) := by decide +kernel
theorem dX10_memory_4 : decode cX10_memory 4 = .ok (.invokevirtual 126, 3) := by decide +kernel
theorem dX10_memory_7 : decode cX10_memory 7 = .ok (.invokevirtual 129, 3) := by decide +kernel
theorem dX10_memory_10 : decode cX10_memory 10 = .ok (.istore_n 3, 1) := by decide +kernel
theorem dX10_memory_11 : decode cX10_memory 11 = .ok (.iload_n 3, 1) := by decide +kernel
theorem dX10_memory_12 : decode cX10_memory 12 = .ok (.ifCond .eq 7, 3) := by decide +kernel
theorem dX10_memory_15 : decode cX10_memory 15 = .ok (.iload_n 3, 1) := by decide +kernel
theorem dX10_memory_16 : decode cX10_memory 16 = .ok (.goto 12, 3) := by decide +kernel
theorem dX10_memory_19 : decode cX10_memory 19 = .ok (.aload_n 0, 1) := by decide +kernel
theorem dX10_memory_20 : decode cX10_memory 20 = .ok (.getfield 32, 3) := by decide +kernel
theorem dX10_memory_23 : decode cX10_memory 23 = .ok (.iload_n 1, 1) := by decide +kernel
theorem dX10_memory_24 : decode cX10_memory 24 = .ok (.iload_n 2, 1) := by decide +kernel
theorem dX10_memory_25 : decode cX10_memory 25 = .ok (.invokevirtual 131, 3) := by decide +kernel
theorem dX10_memory_28 : decode cX10_memory 28 = .ok (.ireturn, 1) := by decide +kernel
theorem dX10_recalls_0 : decode cX10_recalls 0 = .ok (.aload_n 0, 1) := by decide +kernel
theorem dX10_recalls_1 : decode cX10_recalls 1 = .ok (.aload_n 0, 1) := by decide +kernel
theorem dX10_recalls_2 : decode cX10_recalls 2 = .ok (.iload_n 1, 1) := by decide +kernel
theorem dX10_recalls_3 : decode cX10_recalls 3 = .ok (.iload_n 2, 1) := by decide +kernel
theorem dX10_recalls_4 : decode cX10_recalls 4 = .ok (.invokevirtual 126, 3) := by decide +kernel
theorem dX10_recalls_7 : decode cX10_recalls 7 = .ok (.iload_n 3, 1) := by decide +kernel
theorem dX10_recalls_8 : decode cX10_recalls 8 = .ok (.iconst 0, 1) := by decide +kernel
theorem dX10_recalls_9 : decode cX10_recalls 9 = .ok (.bipush 99, 2) := by decide +kernel
theorem dX10_recalls_11 : decode cX10_recalls 11 = .ok (.invokestatic 73, 3) := by decide +kernel
theorem dX10_recalls_14 : decode cX10_recalls 14 = .ok (.invokevirtual 81, 3) := by decide +kernel
theorem dX10_recalls_17 : decode cX10_recalls 17 = .ok (.istore 4, 2) := by decide +kernel
theorem dX10_recalls_19 : decode cX10_recalls 19 = .ok (.iload 4, 2) := by decide +kernel
theorem dX10_recalls_21 : decode cX10_recalls 21 = .ok (.ifCond .eq 6, 3) := by decide +kernel
theorem dX10_recalls_24 : decode cX10_recalls 24 = .ok (.iload 4, 2) := by decide +kernel
theorem dX10_recalls_26 : decode cX10_recalls 26 = .ok (.ireturn, 1) := by decide +kernel
theorem dX10_recalls_27 : decode cX10_recalls 27 = .ok (.aload_n 0, 1) := by decide +kernel
theorem dX10_recalls_28 : decode cX10_recalls 28 = .ok (.getfield 32, 3) := by decide +kernel
theorem dX10_recalls_31 : decode cX10_recalls 31 = .ok (.iload_n 1, 1) := by decide +kernel
theorem dX10_recalls_32 : decode cX10_recalls 32 = .ok (.iload_n 2, 1) := by decide +kernel
theorem dX10_recalls_33 : decode cX10_recalls 33 = .ok (.invokevirtual 131, 3) := by decide +kernel
theorem dX10_recalls_36 : decode cX10_recalls 36 = .ok (.istore 5, 2) := by decide +kernel
theorem dX10_recalls_38 : decode cX10_recalls 38 = .ok (.aload_n 0, 1) := by decide +kernel
theorem dX10_recalls_39 : decode cX10_recalls 39 = .ok (.getfield 32, 3) := by decide +kernel
theorem dX10_recalls_42 : decode cX10_recalls 42 = .ok (.iload_n 1, 1) := by decide +kernel
theorem dX10_recalls_43 : decode cX10_recalls 43 = .ok (.iload_n 2, 1) := by decide +kernel
theorem dX10_recalls_44 : decode cX10_recalls 44 = .ok (.iload_n 3, 1) := by decide +kernel
theorem dX10_recalls_45 : decode cX10_recalls 45 = .ok (.invokevirtual 134, 3) := by decide +kernel
theorem dX10_recalls_48 : decode cX10_recalls 48 = .ok (.iload 5, 2) := by decide +kernel
theorem dX10_recalls_50 : decode cX10_recalls 50 = .ok (.ireturn, 1) := by decide +kernel
theorem dX10_speaks_0 : decode cX10_speaks 0 = .ok (.aload_n 0, 1) := by decide +kernel
theorem dX10_speaks_1 : decode cX10_speaks 1 = .ok (.aload_n 0, 1) := by decide +kernel
theorem dX10_speaks_2 : decode cX10_speaks 2 = .ok (.iload_n 1, 1) := by decide +kernel
theorem dX10_speaks_3 : decode cX10_speaks 3 = .ok (.iload_n 2, 1) := by decide +kernel
theorem dX10_speaks_4 : decode cX10_speaks 4 = .ok (.invokevirtual 126, 3) := by decide +kernel
theorem dX10_speaks_7 : decode cX10_speaks 7 = .ok (.aload_n 0, 1) := by decide +kernel
theorem dX10_speaks_8 : decode cX10_speaks 8 = .ok (.iload_n 1, 1) := by decide +kernel
theorem dX10_speaks_9 : decode cX10_speaks 9 = .ok (.invokevirtual 138, 3) := by decide +kernel
theorem dX10_speaks_12 : decode cX10_speaks 12 = .ok (.aload_n 0, 1) := by decide +kernel
theorem dX10_speaks_13 : decode cX10_speaks 13 = .ok (.iload_n 2, 1) := by decide +kernel
theorem dX10_speaks_14 : decode cX10_speaks 14 = .ok (.invokevirtual 138, 3) := by decide +kernel
theorem dX10_speaks_17 : decode cX10_speaks 17 = .ok (.invokevirtual 141, 3) := by decide +kernel
theorem dX10_speaks_20 : decode cX10_speaks 20 = .ok (.istore_n 3, 1) := by decide +kernel
theorem dX10_speaks_21 : decode cX10_speaks 21 = .ok (.iload_n 3, 1) := by decide +kernel
theorem dX10_speaks_22 : decode cX10_speaks 22 = .ok (.ifCond .eq 5, 3) := by decide +kernel
theorem dX10_speaks_25 : decode cX10_speaks 25 = .ok (.iload_n 3, 1) := by decide +kernel
theorem dX10_speaks_26 : decode cX10_speaks 26 = .ok (.ireturn, 1) := by decide +kernel
theorem dX10_speaks_27 : decode cX10_speaks 27 = .ok (.aload_n 0, 1) := by decide +kernel
theorem dX10_speaks_28 : decode cX10_speaks 28 = .ok (.getfield 32, 3) := by decide +kernel
theorem dX10_speaks_31 : decode cX10_speaks 31 = .ok (.iload_n 1, 1) := by decide +kernel
theorem dX10_speaks_32 : decode cX10_speaks 32 = .ok (.iload_n 2, 1) := by decide +kernel
theorem dX10_speaks_33 : decode cX10_speaks 33 = .ok (.invokevirtual 143, 3) := by decide +kernel
theorem dX10_speaks_36 : decode cX10_speaks 36 = .ok (.aload_n 0, 1) := by decide +kernel
theorem dX10_speaks_37 : decode cX10_speaks 37 = .ok (.getfield 32, 3) := by decide +kernel
theorem dX10_speaks_40 : decode cX10_speaks 40 = .ok (.iload_n 1, 1) := by decide +kernel
theorem dX10_speaks_41 : decode cX10_speaks 41 = .ok (.iload_n 2, 1) := by decide +kernel
theorem dX10_speaks_42 : decode cX10_speaks 42 = .ok (.invokevirtual 131, 3) := by decide +kernel
theorem dX10_speaks_45 : decode cX10_speaks 45 = .ok (.aload_n 0, 1) := by decide +kernel
theorem dX10_speaks_46 : decode cX10_speaks 46 = .ok (.getfield 32, 3) := by decide +kernel
theorem dX10_speaks_49 : decode cX10_speaks 49 = .ok (.iload_n 2, 1) := by decide +kernel
theorem dX10_speaks_50 : decode cX10_speaks 50 = .ok (.iload_n 1, 1) := by decide +kernel
theorem dX10_speaks_51 : decode cX10_speaks 51 = .ok (.invokevirtual 131, 3) := by decide +kernel
theorem dX10_speaks_54 : decode cX10_speaks 54 = .ok (.iadd, 1) := by decide +kernel
theorem dX10_speaks_55 : decode cX10_speaks 55 = .ok (.ireturn, 1) := by decide +kernel
theorem dX10_owes_0 : decode cX10_owes 0 = .ok (.aload_n 0, 1) := by decide +kernel
theorem dX10_owes_1 : decode cX10_owes 1 = .ok (.aload_n 0, 1) := by decide +kernel
theorem dX10_owes_2 : decode cX10_owes 2 = .ok (.iload_n 1, 1) := by decide +kernel
theorem dX10_owes_3 : decode cX10_owes 3 = .ok (.invokevirtual 100, 3) := by decide +kernel
theorem dX10_owes_6 : decode cX10_owes 6 = .ok (.iload_n 2, 1) := by decide +kernel
theorem dX10_owes_7 : decode cX10_owes 7 = .ok (.iconst 0, 1) := by decide +kernel
theorem dX10_owes_8 : decode cX10_owes 8 = .ok (.bipush 99, 2) := by decide +kernel
theorem dX10_owes_10 : decode cX10_owes 10 = .ok (.invokestatic 73, 3) := by decide +kernel
theorem dX10_owes_13 : decode cX10_owes 13 = .ok (.invokevirtual 81, 3) := by decide +kernel
theorem dX10_owes_16 : decode cX10_owes 16 = .ok (.istore_n 3, 1) := by decide +kernel
theorem dX10_owes_17 : decode cX10_owes 17 = .ok (.iload_n 3, 1) := by decide +kernel
theorem dX10_owes_18 : decode cX10_owes 18 = .ok (.ifCond .eq 5, 3) := by decide +kernel
theorem dX10_owes_21 : decode cX10_owes 21 = .ok (.iload_n 3, 1) := by decide +kernel
theorem dX10_owes_22 : decode cX10_owes 22 = .ok (.ireturn, 1) := by decide +kernel
theorem dX10_owes_23 : decode cX10_owes 23 = .ok (.aload_n 0, 1) := by decide +kernel
theorem dX10_owes_24 : decode cX10_owes 24 = .ok (.getfield 32, 3) := by decide +kernel
theorem dX10_owes_27 : decode cX10_owes 27 = .ok (.getfield 116, 3) := by decide +kernel
theorem dX10_owes_30 : decode cX10_owes 30 = .ok (.iload_n 1, 1) := by decide +kernel
theorem dX10_owes_31 : decode cX10_owes 31 = .ok (.iaload, 1) := by decide +kernel
theorem dX10_owes_32 : decode cX10_owes 32 = .ok (.istore 4, 2) := by decide +kernel
theorem dX10_owes_34 : decode cX10_owes 34 = .ok (.aload_n 0, 1) := by decide +kernel
theorem dX10_owes_35 : decode cX10_owes 35 = .ok (.getfield 32, 3) := by decide +kernel
theorem dX10_owes_38 : decode cX10_owes 38 = .ok (.getfield 116, 3) := by decide +kernel
theorem dX10_owes_41 : decode cX10_owes 41 = .ok (.iload_n 1, 1) := by decide +kernel
theorem dX10_owes_42 : decode cX10_owes 42 = .ok (.iload_n 2, 1) := by decide +kernel
theorem dX10_owes_43 : decode cX10_owes 43 = .ok (.iastore, 1) := by decide +kernel
theorem dX10_owes_44 : decode cX10_owes 44 = .ok (.iload 4, 2) := by decide +kernel
theorem dX10_owes_46 : decode cX10_owes 46 = .ok (.ireturn, 1) := by decide +kernel
theorem dX10_back_0 : decode cX10_back 0 = .ok (.aload_n 0, 1) := by decide +kernel
theorem dX10_back_1 : decode cX10_back 1 = .ok (.aload_n 0, 1) := by decide +kernel
theorem dX10_back_2 : decode cX10_back 2 = .ok (.iload_n 1, 1) := by decide +kernel
theorem dX10_back_3 : decode cX10_back 3 = .ok (.invokevirtual 100, 3) := by decide +kernel
theorem dX10_back_6 : decode cX10_back 6 = .ok (.aload_n 0, 1) := by decide +kernel
theorem dX10_back_7 : decode cX10_back 7 = .ok (.getfield 32, 3) := by decide +kernel
theorem dX10_back_10 : decode cX10_back 10 = .ok (.iload_n 1, 1) := by decide +kernel
theorem dX10_back_11 : decode cX10_back 11 = .ok (.invokevirtual 147, 3) := by decide +kernel
theorem dX10_back_14 : decode cX10_back 14 = .ok (.ifCond .eq 8, 3) := by decide +kernel
theorem dX10_back_17 : decode cX10_back 17 = .ok (.bipush (-3), 2) := by decide +kernel
theorem dX10_back_19 : decode cX10_back 19 = .ok (.goto 4, 3) := by decide +kernel
theorem dX10_back_22 : decode cX10_back 22 = .ok (.iconst 0, 1) := by decide +kernel
theorem dX10_back_23 : decode cX10_back 23 = .ok (.invokevirtual 81, 3) := by decide +kernel
theorem dX10_back_26 : decode cX10_back 26 = .ok (.istore_n 2, 1) := by decide +kernel
theorem dX10_back_27 : decode cX10_back 27 = .ok (.iload_n 2, 1) := by decide +kernel
theorem dX10_back_28 : decode cX10_back 28 = .ok (.ifCond .eq 5, 3) := by decide +kernel
theorem dX10_back_31 : decode cX10_back 31 = .ok (.iload_n 2, 1) := by decide +kernel
theorem dX10_back_32 : decode cX10_back 32 = .ok (.ireturn, 1) := by decide +kernel
theorem dX10_back_33 : decode cX10_back 33 = .ok (.aload_n 0, 1) := by decide +kernel
theorem dX10_back_34 : decode cX10_back 34 = .ok (.getfield 32, 3) := by decide +kernel
theorem dX10_back_37 : decode cX10_back 37 = .ok (.iload_n 1, 1) := by decide +kernel
theorem dX10_back_38 : decode cX10_back 38 = .ok (.invokevirtual 150, 3) := by decide +kernel
theorem dX10_back_41 : decode cX10_back 41 = .ok (.aload_n 0, 1) := by decide +kernel
theorem dX10_back_42 : decode cX10_back 42 = .ok (.getfield 32, 3) := by decide +kernel
theorem dX10_back_45 : decode cX10_back 45 = .ok (.invokevirtual 154, 3) := by decide +kernel
theorem dX10_back_48 : decode cX10_back 48 = .ok (.ireturn, 1) := by decide +kernel
theorem dX10_names_0 : decode cX10_names 0 = .ok (.aload_n 0, 1) := by decide +kernel
theorem dX10_names_1 : decode cX10_names 1 = .ok (.iload_n 1, 1) := by decide +kernel
theorem dX10_names_2 : decode cX10_names 2 = .ok (.iconst 0, 1) := by decide +kernel
theorem dX10_names_3 : decode cX10_names 3 = .ok (.iconst 3, 1) := by decide +kernel
theorem dX10_names_4 : decode cX10_names 4 = .ok (.invokestatic 73, 3) := by decide +kernel
theorem dX10_names_7 : decode cX10_names 7 = .ok (.invokevirtual 129, 3) := by decide +kernel
theorem dX10_names_10 : decode cX10_names 10 = .ok (.istore_n 2, 1) := by decide +kernel
theorem dX10_names_11 : decode cX10_names 11 = .ok (.iload_n 2, 1) := by decide +kernel
theorem dX10_names_12 : decode cX10_names 12 = .ok (.ifCond .eq 5, 3) := by decide +kernel
theorem dX10_names_15 : decode cX10_names 15 = .ok (.iload_n 2, 1) := by decide +kernel
theorem dX10_names_16 : decode cX10_names 16 = .ok (.ireturn, 1) := by decide +kernel
theorem dX10_names_17 : decode cX10_names 17 = .ok (.aload_n 0, 1) := by decide +kernel
theorem dX10_names_18 : decode cX10_names 18 = .ok (.getfield 32, 3) := by decide +kernel
theorem dX10_names_21 : decode cX10_names 21 = .ok (.getfield 158, 3) := by decide +kernel
theorem dX10_names_24 : decode cX10_names 24 = .ok (.istore_n 3, 1) := by decide +kernel
theorem dX10_names_25 : decode cX10_names 25 = .ok (.aload_n 0, 1) := by decide +kernel
theorem dX10_names_26 : decode cX10_names 26 = .ok (.getfield 32, 3) := by decide +kernel
theorem dX10_names_29 : decode cX10_names 29 = .ok (.iload_n 1, 1) := by decide +kernel
theorem dX10_names_30 : decode cX10_names 30 = .ok (.putfield 158, 3) := by decide +kernel
theorem dX10_names_33 : decode cX10_names 33 = .ok (.iload_n 3, 1) := by decide +kernel
theorem dX10_names_34 : decode cX10_names 34 = .ok (.ireturn, 1) := by decide +kernel
theorem dX10_turn_0 : decode cX10_turn 0 = .ok (.aload_n 0, 1) := by decide +kernel
theorem dX10_turn_1 : decode cX10_turn 1 = .ok (.aload_n 0, 1) := by decide +kernel
theorem dX10_turn_2 : decode cX10_turn 2 = .ok (.iload_n 1, 1) := by decide +kernel
theorem dX10_turn_3 : decode cX10_turn 3 = .ok (.invokevirtual 100, 3) := by decide +kernel
theorem dX10_turn_6 : decode cX10_turn 6 = .ok (.iload_n 2, 1) := by decide +kernel
theorem dX10_turn_7 : decode cX10_turn 7 = .ok (.iconst 5, 1) := by decide +kernel
theorem dX10_turn_8 : decode cX10_turn 8 = .ok (.invokestatic 103, 3) := by decide +kernel
theorem dX10_turn_11 : decode cX10_turn 11 = .ok (.iload_n 3, 1) := by decide +kernel
theorem dX10_turn_12 : decode cX10_turn 12 = .ok (.iconst 0, 1) := by decide +kernel
theorem dX10_turn_13 : decode cX10_turn 13 = .ok (.bipush 9, 2) := by decide +kernel
theorem dX10_turn_15 : decode cX10_turn 15 = .ok (.invokestatic 73, 3) := by decide +kernel
theorem dX10_turn_18 : decode cX10_turn 18 = .ok (.invokevirtual 141, 3) := by decide +kernel
theorem dX10_turn_21 : decode cX10_turn 21 = .ok (.istore 4, 2) := by decide +kernel
theorem dX10_turn_23 : decode cX10_turn 23 = .ok (.iload 4, 2) := by decide +kernel
theorem dX10_turn_25 : decode cX10_turn 25 = .ok (.ifCond .eq 6, 3) := by decide +kernel
theorem dX10_turn_28 : decode cX10_turn 28 = .ok (.iload 4, 2) := by decide +kernel
theorem dX10_turn_30 : decode cX10_turn 30 = .ok (.ireturn, 1) := by decide +kernel
theorem dX10_turn_31 : decode cX10_turn 31 = .ok (.bipush 10, 2) := by decide +kernel
theorem dX10_turn_33 : decode cX10_turn 33 = .ok (.aload_n 0, 1) := by decide +kernel
theorem dX10_turn_34 : decode cX10_turn 34 = .ok (.getfield 32, 3) := by decide +kernel
theorem dX10_turn_37 : decode cX10_turn 37 = .ok (.getfield 106, 3) := by decide +kernel
theorem dX10_turn_40 : decode cX10_turn 40 = .ok (.iload_n 1, 1) := by decide +kernel
theorem dX10_turn_41 : decode cX10_turn 41 = .ok (.iaload, 1) := by decide +kernel
theorem dX10_turn_42 : decode cX10_turn 42 = .ok (.imul, 1) := by decide +kernel
theorem dX10_turn_43 : decode cX10_turn 43 = .ok (.aload_n 0, 1) := by decide +kernel
theorem dX10_turn_44 : decode cX10_turn 44 = .ok (.getfield 32, 3) := by decide +kernel
theorem dX10_turn_47 : decode cX10_turn 47 = .ok (.getfield 109, 3) := by decide +kernel
theorem dX10_turn_50 : decode cX10_turn 50 = .ok (.iload_n 1, 1) := by decide +kernel
theorem dX10_turn_51 : decode cX10_turn 51 = .ok (.iaload, 1) := by decide +kernel
theorem dX10_turn_52 : decode cX10_turn 52 = .ok (.iadd, 1) := by decide +kernel
theorem dX10_turn_53 : decode cX10_turn 53 = .ok (.istore 5, 2) := by decide +kernel
theorem dX10_turn_55 : decode cX10_turn 55 = .ok (.aload_n 0, 1) := by decide +kernel
theorem dX10_turn_56 : decode cX10_turn 56 = .ok (.getfield 32, 3) := by decide +kernel
theorem dX10_turn_59 : decode cX10_turn 59 = .ok (.getfield 106, 3) := by decide +kernel
theorem dX10_turn_62 : decode cX10_turn 62 = .ok (.iload_n 1, 1) := by decide +kernel
theorem dX10_turn_63 : decode cX10_turn 63 = .ok (.iload_n 2, 1) := by decide +kernel
theorem dX10_turn_64 : decode cX10_turn 64 = .ok (.iastore, 1) := by decide +kernel
theorem dX10_turn_65 : decode cX10_turn 65 = .ok (.aload_n 0, 1) := by decide +kernel
theorem dX10_turn_66 : decode cX10_turn 66 = .ok (.getfield 32, 3) := by decide +kernel
theorem dX10_turn_69 : decode cX10_turn 69 = .ok (.getfield 109, 3) := by decide +kernel
theorem dX10_turn_72 : decode cX10_turn 72 = .ok (.iload_n 1, 1) := by decide +kernel
theorem dX10_turn_73 : decode cX10_turn 73 = .ok (.iload_n 3, 1) := by decide +kernel
theorem dX10_turn_74 : decode cX10_turn 74 = .ok (.iastore, 1) := by decide +kernel
theorem dX10_turn_75 : decode cX10_turn 75 = .ok (.iload 5, 2) := by decide +kernel
theorem dX10_turn_77 : decode cX10_turn 77 = .ok (.ireturn, 1) := by decide +kernel
theorem dX10_weeks_0 : decode cX10_weeks 0 = .ok (.aload_n 0, 1) := by decide +kernel
theorem dX10_weeks_1 : decode cX10_weeks 1 = .ok (.iload_n 1, 1) := by decide +kernel
theorem dX10_weeks_2 : decode cX10_weeks 2 = .ok (.iconst 1, 1) := by decide +kernel
theorem dX10_weeks_3 : decode cX10_weeks 3 = .ok (.bipush 60, 2) := by decide +kernel
theorem dX10_weeks_5 : decode cX10_weeks 5 = .ok (.sipush 999, 3) := by decide +kernel
theorem dX10_weeks_8 : decode cX10_weeks 8 = .ok (.aload_n 0, 1) := by decide +kernel
theorem dX10_weeks_9 : decode cX10_weeks 9 = .ok (.getfield 32, 3) := by decide +kernel
theorem dX10_weeks_12 : decode cX10_weeks 12 = .ok (.getfield 162, 3) := by decide +kernel
theorem dX10_weeks_15 : decode cX10_weeks 15 = .ok (.isub, 1) := by decide +kernel
theorem dX10_weeks_16 : decode cX10_weeks 16 = .ok (.invokestatic 165, 3) := by decide +kernel
theorem dX10_weeks_19 : decode cX10_weeks 19 = .ok (.invokestatic 73, 3) := by decide +kernel
theorem dX10_weeks_22 : decode cX10_weeks 22 = .ok (.invokevirtual 129, 3) := by decide +kernel
theorem dX10_weeks_25 : decode cX10_weeks 25 = .ok (.istore_n 2, 1) := by decide +kernel
theorem dX10_weeks_26 : decode cX10_weeks 26 = .ok (.iload_n 2, 1) := by decide +kernel
theorem dX10_weeks_27 : decode cX10_weeks 27 = .ok (.ifCond .eq 5, 3) := by decide +kernel
theorem dX10_weeks_30 : decode cX10_weeks 30 = .ok (.iload_n 2, 1) := by decide +kernel
theorem dX10_weeks_31 : decode cX10_weeks 31 = .ok (.ireturn, 1) := by decide +kernel
theorem dX10_weeks_32 : decode cX10_weeks 32 = .ok (.aload_n 0, 1) := by decide +kernel
theorem dX10_weeks_33 : decode cX10_weeks 33 = .ok (.getfield 32, 3) := by decide +kernel
theorem dX10_weeks_36 : decode cX10_weeks 36 = .ok (.iload_n 1, 1) := by decide +kernel
theorem dX10_weeks_37 : decode cX10_weeks 37 = .ok (.invokevirtual 170, 3) := by decide +kernel
theorem dX10_weeks_40 : decode cX10_weeks 40 = .ok (.aload_n 0, 1) := by decide +kernel
theorem dX10_weeks_41 : decode cX10_weeks 41 = .ok (.getfield 32, 3) := by decide +kernel
theorem dX10_weeks_44 : decode cX10_weeks 44 = .ok (.invokevirtual 154, 3) := by decide +kernel
theorem dX10_weeks_47 : decode cX10_weeks 47 = .ok (.ireturn, 1) := by decide +kernel
theorem dX10_memoryThen_0 : decode cX10_memoryThen 0 = .ok (.aload_n 0, 1) := by decide +kernel
theorem dX10_memoryThen_1 : decode cX10_memoryThen 1 = .ok (.aload_n 0, 1) := by decide +kernel
theorem dX10_memoryThen_2 : decode cX10_memoryThen 2 = .ok (.iload_n 1, 1) := by decide +kernel
theorem dX10_memoryThen_3 : decode cX10_memoryThen 3 = .ok (.iload_n 2, 1) := by decide +kernel
theorem dX10_memoryThen_4 : decode cX10_memoryThen 4 = .ok (.invokevirtual 126, 3) := by decide +kernel
theorem dX10_memoryThen_7 : decode cX10_memoryThen 7 = .ok (.iload_n 3, 1) := by decide +kernel
theorem dX10_memoryThen_8 : decode cX10_memoryThen 8 = .ok (.iconst 0, 1) := by decide +kernel
theorem dX10_memoryThen_9 : decode cX10_memoryThen 9 = .ok (.bipush 99, 2) := by decide +kernel
theorem dX10_memoryThen_11 : decode cX10_memoryThen 11 = .ok (.invokestatic 73, 3) := by decide +kernel
theorem dX10_memoryThen_14 : decode cX10_memoryThen 14 = .ok (.invokevirtual 81, 3) := by decide +kernel
theorem dX10_memoryThen_17 : decode cX10_memoryThen 17 = .ok (.istore 4, 2) := by decide +kernel
theorem dX10_memoryThen_19 : decode cX10_memoryThen 19 = .ok (.iload 4, 2) := by decide +kernel
theorem dX10_memoryThen_21 : decode cX10_memoryThen 21 = .ok (.ifCond .eq 8, 3) := by decide +kernel
theorem dX10_memoryThen_24 : decode cX10_memoryThen 24 = .ok (.iload 4, 2) := by decide +kernel
theorem dX10_memoryThen_26 : decode cX10_memoryThen 26 = .ok (.goto 16, 3) := by decide +kernel
theorem dX10_memoryThen_29 : decode cX10_memoryThen 29 = .ok (.aload_n 0, 1) := by decide +kernel
theorem dX10_memoryThen_30 : decode cX10_memoryThen 30 = .ok (.getfield 47, 3) := by decide +kernel
theorem dX10_memoryThen_33 : decode cX10_memoryThen 33 = .ok (.iload_n 3, 1) := by decide +kernel
theorem dX10_memoryThen_34 : decode cX10_memoryThen 34 = .ok (.invokevirtual 173, 3) := by decide +kernel
theorem dX10_memoryThen_37 : decode cX10_memoryThen 37 = .ok (.iload_n 1, 1) := by decide +kernel
theorem dX10_memoryThen_38 : decode cX10_memoryThen 38 = .ok (.iload_n 2, 1) := by decide +kernel
theorem dX10_memoryThen_39 : decode cX10_memoryThen 39 = .ok (.invokevirtual 131, 3) := by decide +kernel
theorem dX10_memoryThen_42 : decode cX10_memoryThen 42 = .ok (.ireturn, 1) := by decide +kernel
theorem dX10_knownThen_0 : decode cX10_knownThen 0 = .ok (.aload_n 0, 1) := by decide +kernel
theorem dX10_knownThen_1 : decode cX10_knownThen 1 = .ok (.aload_n 0, 1) := by decide +kernel
theorem dX10_knownThen_2 : decode cX10_knownThen 2 = .ok (.iload_n 1, 1) := by decide +kernel
theorem dX10_knownThen_3 : decode cX10_knownThen 3 = .ok (.invokevirtual 100, 3) := by decide +kernel
theorem dX10_knownThen_6 : decode cX10_knownThen 6 = .ok (.iload_n 2, 1) := by decide +kernel
theorem dX10_knownThen_7 : decode cX10_knownThen 7 = .ok (.iconst 0, 1) := by decide +kernel
theorem dX10_knownThen_8 : decode cX10_knownThen 8 = .ok (.bipush 99, 2) := by decide +kernel
theorem dX10_knownThen_10 : decode cX10_knownThen 10 = .ok (.invokestatic 73, 3) := by decide +kernel
theorem dX10_knownThen_13 : decode cX10_knownThen 13 = .ok (.invokevirtual 81, 3) := by decide +kernel
theorem dX10_knownThen_16 : decode cX10_knownThen 16 = .ok (.istore_n 3, 1) := by decide +kernel
theorem dX10_knownThen_17 : decode cX10_knownThen 17 = .ok (.iload_n 3, 1) := by decide +kernel
theorem dX10_knownThen_18 : decode cX10_knownThen 18 = .ok (.ifCond .eq 7, 3) := by decide +kernel
theorem dX10_knownThen_21 : decode cX10_knownThen 21 = .ok (.iload_n 3, 1) := by decide +kernel
theorem dX10_knownThen_22 : decode cX10_knownThen 22 = .ok (.goto 15, 3) := by decide +kernel
theorem dX10_knownThen_25 : decode cX10_knownThen 25 = .ok (.aload_n 0, 1) := by decide +kernel
theorem dX10_knownThen_26 : decode cX10_knownThen 26 = .ok (.getfield 47, 3) := by decide +kernel
theorem dX10_knownThen_29 : decode cX10_knownThen 29 = .ok (.iload_n 2, 1) := by decide +kernel
theorem dX10_knownThen_30 : decode cX10_knownThen 30 = .ok (.invokevirtual 173, 3) := by decide +kernel
theorem dX10_knownThen_33 : decode cX10_knownThen 33 = .ok (.iload_n 1, 1) := by decide +kernel
theorem dX10_knownThen_34 : decode cX10_knownThen 34 = .ok (.invokevirtual 119, 3) := by decide +kernel
theorem dX10_knownThen_37 : decode cX10_knownThen 37 = .ok (.ireturn, 1) := by decide +kernel
theorem dX10_gone_0 : decode cX10_gone 0 = .ok (.aload_n 0, 1) := by decide +kernel
theorem dX10_gone_1 : decode cX10_gone 1 = .ok (.iload_n 1, 1) := by decide +kernel
theorem dX10_gone_2 : decode cX10_gone 2 = .ok (.iconst 0, 1) := by decide +kernel
theorem dX10_gone_3 : decode cX10_gone 3 = .ok (.bipush 99, 2) := by decide +kernel
theorem dX10_gone_5 : decode cX10_gone 5 = .ok (.invokestatic 73, 3) := by decide +kernel
theorem dX10_gone_8 : decode cX10_gone 8 = .ok (.invokevirtual 129, 3) := by decide +kernel
theorem dX10_gone_11 : decode cX10_gone 11 = .ok (.istore_n 2, 1) := by decide +kernel
theorem dX10_gone_12 : decode cX10_gone 12 = .ok (.iload_n 2, 1) := by decide +kernel
theorem dX10_gone_13 : decode cX10_gone 13 = .ok (.ifCond .eq 7, 3) := by decide +kernel
theorem dX10_gone_16 : decode cX10_gone 16 = .ok (.iload_n 2, 1) := by decide +kernel
theorem dX10_gone_17 : decode cX10_gone 17 = .ok (.goto 14, 3) := by decide +kernel
theorem dX10_gone_20 : decode cX10_gone 20 = .ok (.aload_n 0, 1) := by decide +kernel
theorem dX10_gone_21 : decode cX10_gone 21 = .ok (.getfield 47, 3) := by decide +kernel
theorem dX10_gone_24 : decode cX10_gone 24 = .ok (.iload_n 1, 1) := by decide +kernel
theorem dX10_gone_25 : decode cX10_gone 25 = .ok (.invokevirtual 173, 3) := by decide +kernel
theorem dX10_gone_28 : decode cX10_gone 28 = .ok (.invokevirtual 177, 3) := by decide +kernel
theorem dX10_gone_31 : decode cX10_gone 31 = .ok (.ireturn, 1) := by decide +kernel
theorem dX10_goes_0 : decode cX10_goes 0 = .ok (.aload_n 0, 1) := by decide +kernel
theorem dX10_goes_1 : decode cX10_goes 1 = .ok (.aload_n 0, 1) := by decide +kernel
theorem dX10_goes_2 : decode cX10_goes 2 = .ok (.iload_n 1, 1) := by decide +kernel
theorem dX10_goes_3 : decode cX10_goes 3 = .ok (.invokevirtual 100, 3) := by decide +kernel
theorem dX10_goes_6 : decode cX10_goes 6 = .ok (.invokevirtual 129, 3) := by decide +kernel
theorem dX10_goes_9 : decode cX10_goes 9 = .ok (.istore_n 2, 1) := by decide +kernel
theorem dX10_goes_10 : decode cX10_goes 10 = .ok (.iload_n 2, 1) := by decide +kernel
theorem dX10_goes_11 : decode cX10_goes 11 = .ok (.ifCond .eq 7, 3) := by decide +kernel
theorem dX10_goes_14 : decode cX10_goes 14 = .ok (.iload_n 2, 1) := by decide +kernel
theorem dX10_goes_15 : decode cX10_goes 15 = .ok (.goto 14, 3) := by decide +kernel
theorem dX10_goes_18 : decode cX10_goes 18 = .ok (.aload_n 0, 1) := by decide +kernel
theorem dX10_goes_19 : decode cX10_goes 19 = .ok (.getfield 47, 3) := by decide +kernel
theorem dX10_goes_22 : decode cX10_goes 22 = .ok (.iload_n 1, 1) := by decide +kernel
theorem dX10_goes_23 : decode cX10_goes 23 = .ok (.invokevirtual 180, 3) := by decide +kernel
theorem dX10_goes_26 : decode cX10_goes 26 = .ok (.invokestatic 183, 3) := by decide +kernel
theorem dX10_goes_29 : decode cX10_goes 29 = .ok (.ireturn, 1) := by decide +kernel
theorem dX10_next_0 : decode cX10_next 0 = .ok (.aload_n 0, 1) := by decide +kernel
theorem dX10_next_1 : decode cX10_next 1 = .ok (.iload_n 1, 1) := by decide +kernel
theorem dX10_next_2 : decode cX10_next 2 = .ok (.iconst 3, 1) := by decide +kernel
theorem dX10_next_3 : decode cX10_next 3 = .ok (.invokestatic 103, 3) := by decide +kernel
theorem dX10_next_6 : decode cX10_next 6 = .ok (.invokevirtual 129, 3) := by decide +kernel
theorem dX10_next_9 : decode cX10_next 9 = .ok (.istore_n 2, 1) := by decide +kernel
theorem dX10_next_10 : decode cX10_next 10 = .ok (.iload_n 2, 1) := by decide +kernel
theorem dX10_next_11 : decode cX10_next 11 = .ok (.ifCond .eq 5, 3) := by decide +kernel
theorem dX10_next_14 : decode cX10_next 14 = .ok (.iload_n 2, 1) := by decide +kernel
theorem dX10_next_15 : decode cX10_next 15 = .ok (.ireturn, 1) := by decide +kernel
theorem dX10_next_16 : decode cX10_next 16 = .ok (.iload_n 1, 1) := by decide +kernel
theorem dX10_next_17 : decode cX10_next 17 = .ok (.tableswitch 57 0 2 #[27, 35, 46], 27) := by decide +kernel
theorem dX10_next_44 : decode cX10_next 44 = .ok (.aload_n 0, 1) := by decide +kernel
theorem dX10_next_45 : decode cX10_next 45 = .ok (.getfield 47, 3) := by decide +kernel
theorem dX10_next_48 : decode cX10_next 48 = .ok (.invokevirtual 186, 3) := by decide +kernel
theorem dX10_next_51 : decode cX10_next 51 = .ok (.ireturn, 1) := by decide +kernel
theorem dX10_next_52 : decode cX10_next 52 = .ok (.aload_n 0, 1) := by decide +kernel
theorem dX10_next_53 : decode cX10_next 53 = .ok (.getfield 47, 3) := by decide +kernel
theorem dX10_next_56 : decode cX10_next 56 = .ok (.invokevirtual 189, 3) := by decide +kernel
theorem dX10_next_59 : decode cX10_next 59 = .ok (.invokestatic 183, 3) := by decide +kernel
theorem dX10_next_62 : decode cX10_next 62 = .ok (.ireturn, 1) := by decide +kernel
theorem dX10_next_63 : decode cX10_next 63 = .ok (.aload_n 0, 1) := by decide +kernel
theorem dX10_next_64 : decode cX10_next 64 = .ok (.getfield 47, 3) := by decide +kernel
theorem dX10_next_67 : decode cX10_next 67 = .ok (.invokevirtual 192, 3) := by decide +kernel
theorem dX10_next_70 : decode cX10_next 70 = .ok (.invokestatic 183, 3) := by decide +kernel
theorem dX10_next_73 : decode cX10_next 73 = .ok (.ireturn, 1) := by decide +kernel
theorem dX10_next_74 : decode cX10_next 74 = .ok (.bipush 10, 2) := by decide +kernel
theorem dX10_next_76 : decode cX10_next 76 = .ok (.aload_n 0, 1) := by decide +kernel
theorem dX10_next_77 : decode cX10_next 77 = .ok (.getfield 32, 3) := by decide +kernel
theorem dX10_next_80 : decode cX10_next 80 = .ok (.getfield 162, 3) := by decide +kernel
theorem dX10_next_83 : decode cX10_next 83 = .ok (.bipush 10, 2) := by decide +kernel
theorem dX10_next_85 : decode cX10_next 85 = .ok (.irem, 1) := by decide +kernel
theorem dX10_next_86 : decode cX10_next 86 = .ok (.isub, 1) := by decide +kernel
theorem dX10_next_87 : decode cX10_next 87 = .ok (.ireturn, 1) := by decide +kernel
theorem dX10_least_0 : decode cX10_least 0 = .ok (.aload_n 0, 1) := by decide +kernel
theorem dX10_least_1 : decode cX10_least 1 = .ok (.iload_n 1, 1) := by decide +kernel
theorem dX10_least_2 : decode cX10_least 2 = .ok (.iconst 1, 1) := by decide +kernel
theorem dX10_least_3 : decode cX10_least 3 = .ok (.invokestatic 103, 3) := by decide +kernel
theorem dX10_least_6 : decode cX10_least 6 = .ok (.invokevirtual 129, 3) := by decide +kernel
theorem dX10_least_9 : decode cX10_least 9 = .ok (.istore_n 2, 1) := by decide +kernel
theorem dX10_least_10 : decode cX10_least 10 = .ok (.iload_n 2, 1) := by decide +kernel
theorem dX10_least_11 : decode cX10_least 11 = .ok (.ifCond .eq 5, 3) := by decide +kernel
theorem dX10_least_14 : decode cX10_least 14 = .ok (.iload_n 2, 1) := by decide +kernel
theorem dX10_least_15 : decode cX10_least 15 = .ok (.ireturn, 1) := by decide +kernel
theorem dX10_least_16 : decode cX10_least 16 = .ok (.iload_n 1, 1) := by decide +kernel
theorem dX10_least_17 : decode cX10_least 17 = .ok (.ifCond .ne 13, 3) := by decide +kernel
theorem dX10_least_20 : decode cX10_least 20 = .ok (.aload_n 0, 1) := by decide +kernel
theorem dX10_least_21 : decode cX10_least 21 = .ok (.getfield 32, 3) := by decide +kernel
theorem dX10_least_24 : decode cX10_least 24 = .ok (.invokevirtual 195, 3) := by decide +kernel
theorem dX10_least_27 : decode cX10_least 27 = .ok (.goto 10, 3) := by decide +kernel
theorem dX10_least_30 : decode cX10_least 30 = .ok (.aload_n 0, 1) := by decide +kernel
theorem dX10_least_31 : decode cX10_least 31 = .ok (.getfield 32, 3) := by decide +kernel
theorem dX10_least_34 : decode cX10_least 34 = .ok (.invokevirtual 198, 3) := by decide +kernel
theorem dX10_least_37 : decode cX10_least 37 = .ok (.ireturn, 1) := by decide +kernel
theorem dX10_speak_0 : decode cX10_speak 0 = .ok (.aload_n 0, 1) := by decide +kernel
theorem dX10_speak_1 : decode cX10_speak 1 = .ok (.aload_n 0, 1) := by decide +kernel
theorem dX10_speak_2 : decode cX10_speak 2 = .ok (.iload_n 1, 1) := by decide +kernel
theorem dX10_speak_3 : decode cX10_speak 3 = .ok (.invokevirtual 100, 3) := by decide +kernel
theorem dX10_speak_6 : decode cX10_speak 6 = .ok (.aload_n 0, 1) := by decide +kernel
theorem dX10_speak_7 : decode cX10_speak 7 = .ok (.iload_n 1, 1) := by decide +kernel
theorem dX10_speak_8 : decode cX10_speak 8 = .ok (.invokevirtual 138, 3) := by decide +kernel
theorem dX10_speak_11 : decode cX10_speak 11 = .ok (.invokevirtual 81, 3) := by decide +kernel
theorem dX10_speak_14 : decode cX10_speak 14 = .ok (.istore_n 2, 1) := by decide +kernel
theorem dX10_speak_15 : decode cX10_speak 15 = .ok (.iload_n 2, 1) := by decide +kernel
theorem dX10_speak_16 : decode cX10_speak 16 = .ok (.ifCond .eq 7, 3) := by decide +kernel
theorem dX10_speak_19 : decode cX10_speak 19 = .ok (.iload_n 2, 1) := by decide +kernel
theorem dX10_speak_20 : decode cX10_speak 20 = .ok (.goto 11, 3) := by decide +kernel
theorem dX10_speak_23 : decode cX10_speak 23 = .ok (.aload_n 0, 1) := by decide +kernel
theorem dX10_speak_24 : decode cX10_speak 24 = .ok (.getfield 47, 3) := by decide +kernel
theorem dX10_speak_27 : decode cX10_speak 27 = .ok (.iload_n 1, 1) := by decide +kernel
theorem dX10_speak_28 : decode cX10_speak 28 = .ok (.invokevirtual 201, 3) := by decide +kernel
theorem dX10_speak_31 : decode cX10_speak 31 = .ok (.ireturn, 1) := by decide +kernel
theorem dX10_fewest_0 : decode cX10_fewest 0 = .ok (.aload_n 0, 1) := by decide +kernel
theorem dX10_fewest_1 : decode cX10_fewest 1 = .ok (.aload_n 0, 1) := by decide +kernel
theorem dX10_fewest_2 : decode cX10_fewest 2 = .ok (.iload_n 1, 1) := by decide +kernel
theorem dX10_fewest_3 : decode cX10_fewest 3 = .ok (.invokevirtual 100, 3) := by decide +kernel
theorem dX10_fewest_6 : decode cX10_fewest 6 = .ok (.iload_n 2, 1) := by decide +kernel
theorem dX10_fewest_7 : decode cX10_fewest 7 = .ok (.iconst 0, 1) := by decide +kernel
theorem dX10_fewest_8 : decode cX10_fewest 8 = .ok (.bipush 60, 2) := by decide +kernel
theorem dX10_fewest_10 : decode cX10_fewest 10 = .ok (.invokestatic 73, 3) := by decide +kernel
theorem dX10_fewest_13 : decode cX10_fewest 13 = .ok (.aload_n 0, 1) := by decide +kernel
theorem dX10_fewest_14 : decode cX10_fewest 14 = .ok (.iload_n 1, 1) := by decide +kernel
theorem dX10_fewest_15 : decode cX10_fewest 15 = .ok (.invokevirtual 138, 3) := by decide +kernel
theorem dX10_fewest_18 : decode cX10_fewest 18 = .ok (.invokevirtual 141, 3) := by decide +kernel
theorem dX10_fewest_21 : decode cX10_fewest 21 = .ok (.istore_n 3, 1) := by decide +kernel
theorem dX10_fewest_22 : decode cX10_fewest 22 = .ok (.iload_n 3, 1) := by decide +kernel
theorem dX10_fewest_23 : decode cX10_fewest 23 = .ok (.ifCond .eq 7, 3) := by decide +kernel
theorem dX10_fewest_26 : decode cX10_fewest 26 = .ok (.iload_n 3, 1) := by decide +kernel
theorem dX10_fewest_27 : decode cX10_fewest 27 = .ok (.goto 12, 3) := by decide +kernel
theorem dX10_fewest_30 : decode cX10_fewest 30 = .ok (.aload_n 0, 1) := by decide +kernel
theorem dX10_fewest_31 : decode cX10_fewest 31 = .ok (.getfield 47, 3) := by decide +kernel
theorem dX10_fewest_34 : decode cX10_fewest 34 = .ok (.iload_n 1, 1) := by decide +kernel
theorem dX10_fewest_35 : decode cX10_fewest 35 = .ok (.iload_n 2, 1) := by decide +kernel
theorem dX10_fewest_36 : decode cX10_fewest 36 = .ok (.invokevirtual 204, 3) := by decide +kernel
theorem dX10_fewest_39 : decode cX10_fewest 39 = .ok (.ireturn, 1) := by decide +kernel
theorem dX10_save_0 : decode cX10_save 0 = .ok (.aload_n 0, 1) := by decide +kernel
theorem dX10_save_1 : decode cX10_save 1 = .ok (.iload_n 1, 1) := by decide +kernel
theorem dX10_save_2 : decode cX10_save 2 = .ok (.iconst 0, 1) := by decide +kernel
theorem dX10_save_3 : decode cX10_save 3 = .ok (.bipush 60, 2) := by decide +kernel
theorem dX10_save_5 : decode cX10_save 5 = .ok (.invokestatic 73, 3) := by decide +kernel
theorem dX10_save_8 : decode cX10_save 8 = .ok (.invokevirtual 129, 3) := by decide +kernel
theorem dX10_save_11 : decode cX10_save 11 = .ok (.istore_n 2, 1) := by decide +kernel
theorem dX10_save_12 : decode cX10_save 12 = .ok (.iload_n 2, 1) := by decide +kernel
theorem dX10_save_13 : decode cX10_save 13 = .ok (.ifCond .eq 7, 3) := by decide +kernel
theorem dX10_save_16 : decode cX10_save 16 = .ok (.iload_n 2, 1) := by decide +kernel
theorem dX10_save_17 : decode cX10_save 17 = .ok (.goto 11, 3) := by decide +kernel
theorem dX10_save_20 : decode cX10_save 20 = .ok (.aload_n 0, 1) := by decide +kernel
theorem dX10_save_21 : decode cX10_save 21 = .ok (.getfield 47, 3) := by decide +kernel
theorem dX10_save_24 : decode cX10_save 24 = .ok (.iload_n 1, 1) := by decide +kernel
theorem dX10_save_25 : decode cX10_save 25 = .ok (.invokevirtual 207, 3) := by decide +kernel
theorem dX10_save_28 : decode cX10_save 28 = .ok (.ireturn, 1) := by decide +kernel
theorem dX10_bring_0 : decode cX10_bring 0 = .ok (.aload_n 0, 1) := by decide +kernel
theorem dX10_bring_1 : decode cX10_bring 1 = .ok (.iload_n 1, 1) := by decide +kernel
theorem dX10_bring_2 : decode cX10_bring 2 = .ok (.iconst 1, 1) := by decide +kernel
theorem dX10_bring_3 : decode cX10_bring 3 = .ok (.invokestatic 103, 3) := by decide +kernel
theorem dX10_bring_6 : decode cX10_bring 6 = .ok (.invokevirtual 129, 3) := by decide +kernel
theorem dX10_bring_9 : decode cX10_bring 9 = .ok (.istore_n 2, 1) := by decide +kernel
theorem dX10_bring_10 : decode cX10_bring 10 = .ok (.iload_n 2, 1) := by decide +kernel
theorem dX10_bring_11 : decode cX10_bring 11 = .ok (.ifCond .eq 5, 3) := by decide +kernel
theorem dX10_bring_14 : decode cX10_bring 14 = .ok (.iload_n 2, 1) := by decide +kernel
theorem dX10_bring_15 : decode cX10_bring 15 = .ok (.ireturn, 1) := by decide +kernel
theorem dX10_bring_16 : decode cX10_bring 16 = .ok (.aload_n 0, 1) := by decide +kernel
theorem dX10_bring_17 : decode cX10_bring 17 = .ok (.getfield 47, 3) := by decide +kernel
theorem dX10_bring_20 : decode cX10_bring 20 = .ok (.invokevirtual 210, 3) := by decide +kernel
theorem dX10_bring_23 : decode cX10_bring 23 = .ok (.istore_n 3, 1) := by decide +kernel
theorem dX10_bring_24 : decode cX10_bring 24 = .ok (.iload_n 1, 1) := by decide +kernel
theorem dX10_bring_25 : decode cX10_bring 25 = .ok (.ifCond .eq 9, 3) := by decide +kernel
theorem dX10_bring_28 : decode cX10_bring 28 = .ok (.iload_n 3, 1) := by decide +kernel
theorem dX10_bring_29 : decode cX10_bring 29 = .ok (.bipush (-9), 2) := by decide +kernel
theorem dX10_bring_31 : decode cX10_bring 31 = .ok (.if_icmp .ne 7, 3) := by decide +kernel
theorem dX10_bring_34 : decode cX10_bring 34 = .ok (.iload_n 3, 1) := by decide +kernel
theorem dX10_bring_35 : decode cX10_bring 35 = .ok (.goto 11, 3) := by decide +kernel
theorem dX10_bring_38 : decode cX10_bring 38 = .ok (.aload_n 0, 1) := by decide +kernel
theorem dX10_bring_39 : decode cX10_bring 39 = .ok (.getfield 47, 3) := by decide +kernel
theorem dX10_bring_42 : decode cX10_bring 42 = .ok (.iload_n 3, 1) := by decide +kernel
theorem dX10_bring_43 : decode cX10_bring 43 = .ok (.invokevirtual 213, 3) := by decide +kernel
theorem dX10_bring_46 : decode cX10_bring 46 = .ok (.ireturn, 1) := by decide +kernel
theorem dX10_league_0 : decode cX10_league 0 = .ok (.aload_n 0, 1) := by decide +kernel
theorem dX10_league_1 : decode cX10_league 1 = .ok (.aload_n 0, 1) := by decide +kernel
theorem dX10_league_2 : decode cX10_league 2 = .ok (.iload_n 1, 1) := by decide +kernel
theorem dX10_league_3 : decode cX10_league 3 = .ok (.invokevirtual 100, 3) := by decide +kernel
theorem dX10_league_6 : decode cX10_league 6 = .ok (.aload_n 0, 1) := by decide +kernel
theorem dX10_league_7 : decode cX10_league 7 = .ok (.iload_n 1, 1) := by decide +kernel
theorem dX10_league_8 : decode cX10_league 8 = .ok (.invokevirtual 138, 3) := by decide +kernel
theorem dX10_league_11 : decode cX10_league 11 = .ok (.invokevirtual 81, 3) := by decide +kernel
theorem dX10_league_14 : decode cX10_league 14 = .ok (.istore_n 2, 1) := by decide +kernel
theorem dX10_league_15 : decode cX10_league 15 = .ok (.iload_n 2, 1) := by decide +kernel
theorem dX10_league_16 : decode cX10_league 16 = .ok (.ifCond .eq 7, 3) := by decide +kernel
theorem dX10_league_19 : decode cX10_league 19 = .ok (.iload_n 2, 1) := by decide +kernel
theorem dX10_league_20 : decode cX10_league 20 = .ok (.goto 11, 3) := by decide +kernel
theorem dX10_league_23 : decode cX10_league 23 = .ok (.aload_n 0, 1) := by decide +kernel
theorem dX10_league_24 : decode cX10_league 24 = .ok (.getfield 32, 3) := by decide +kernel
theorem dX10_league_27 : decode cX10_league 27 = .ok (.iload_n 1, 1) := by decide +kernel
theorem dX10_league_28 : decode cX10_league 28 = .ok (.invokevirtual 216, 3) := by decide +kernel
theorem dX10_league_31 : decode cX10_league 31 = .ok (.ireturn, 1) := by decide +kernel
theorem dX10_largest_0 : decode cX10_largest 0 = .ok (.aload_n 0, 1) := by decide +kernel
theorem dX10_largest_1 : decode cX10_largest 1 = .ok (.iload_n 1, 1) := by decide +kernel
theorem dX10_largest_2 : decode cX10_largest 2 = .ok (.iconst 1, 1) := by decide +kernel
theorem dX10_largest_3 : decode cX10_largest 3 = .ok (.invokestatic 103, 3) := by decide +kernel
theorem dX10_largest_6 : decode cX10_largest 6 = .ok (.invokevirtual 129, 3) := by decide +kernel
theorem dX10_largest_9 : decode cX10_largest 9 = .ok (.istore_n 2, 1) := by decide +kernel
theorem dX10_largest_10 : decode cX10_largest 10 = .ok (.iload_n 2, 1) := by decide +kernel
theorem dX10_largest_11 : decode cX10_largest 11 = .ok (.ifCond .eq 5, 3) := by decide +kernel
theorem dX10_largest_14 : decode cX10_largest 14 = .ok (.iload_n 2, 1) := by decide +kernel
theorem dX10_largest_15 : decode cX10_largest 15 = .ok (.ireturn, 1) := by decide +kernel
theorem dX10_largest_16 : decode cX10_largest 16 = .ok (.aload_n 0, 1) := by decide +kernel
theorem dX10_largest_17 : decode cX10_largest 17 = .ok (.getfield 47, 3) := by decide +kernel
theorem dX10_largest_20 : decode cX10_largest 20 = .ok (.invokevirtual 219, 3) := by decide +kernel
theorem dX10_largest_23 : decode cX10_largest 23 = .ok (.istore_n 3, 1) := by decide +kernel
theorem dX10_largest_24 : decode cX10_largest 24 = .ok (.iload_n 1, 1) := by decide +kernel
theorem dX10_largest_25 : decode cX10_largest 25 = .ok (.ifCond .ne 7, 3) := by decide +kernel
theorem dX10_largest_28 : decode cX10_largest 28 = .ok (.iload_n 3, 1) := by decide +kernel
theorem dX10_largest_29 : decode cX10_largest 29 = .ok (.goto 7, 3) := by decide +kernel
theorem dX10_largest_32 : decode cX10_largest 32 = .ok (.iload_n 3, 1) := by decide +kernel
theorem dX10_largest_33 : decode cX10_largest 33 = .ok (.invokestatic 222, 3) := by decide +kernel
theorem dX10_largest_36 : decode cX10_largest 36 = .ok (.ireturn, 1) := by decide +kernel
theorem dX10_cold_0 : decode cX10_cold 0 = .ok (.aload_n 0, 1) := by decide +kernel
theorem dX10_cold_1 : decode cX10_cold 1 = .ok (.iload_n 1, 1) := by decide +kernel
theorem dX10_cold_2 : decode cX10_cold 2 = .ok (.iconst 1, 1) := by decide +kernel
theorem dX10_cold_3 : decode cX10_cold 3 = .ok (.invokestatic 103, 3) := by decide +kernel
theorem dX10_cold_6 : decode cX10_cold 6 = .ok (.invokevirtual 129, 3) := by decide +kernel
theorem dX10_cold_9 : decode cX10_cold 9 = .ok (.istore_n 2, 1) := by decide +kernel
theorem dX10_cold_10 : decode cX10_cold 10 = .ok (.iload_n 2, 1) := by decide +kernel
theorem dX10_cold_11 : decode cX10_cold 11 = .ok (.ifCond .eq 5, 3) := by decide +kernel
theorem dX10_cold_14 : decode cX10_cold 14 = .ok (.iload_n 2, 1) := by decide +kernel
theorem dX10_cold_15 : decode cX10_cold 15 = .ok (.ireturn, 1) := by decide +kernel
theorem dX10_cold_16 : decode cX10_cold 16 = .ok (.iload_n 1, 1) := by decide +kernel
theorem dX10_cold_17 : decode cX10_cold 17 = .ok (.ifCond .ne 13, 3) := by decide +kernel
theorem dX10_cold_20 : decode cX10_cold 20 = .ok (.aload_n 0, 1) := by decide +kernel
theorem dX10_cold_21 : decode cX10_cold 21 = .ok (.getfield 32, 3) := by decide +kernel
theorem dX10_cold_24 : decode cX10_cold 24 = .ok (.invokevirtual 227, 3) := by decide +kernel
theorem dX10_cold_27 : decode cX10_cold 27 = .ok (.goto 10, 3) := by decide +kernel
theorem dX10_cold_30 : decode cX10_cold 30 = .ok (.aload_n 0, 1) := by decide +kernel
theorem dX10_cold_31 : decode cX10_cold 31 = .ok (.getfield 32, 3) := by decide +kernel
theorem dX10_cold_34 : decode cX10_cold 34 = .ok (.invokevirtual 230, 3) := by decide +kernel
theorem dX10_cold_37 : decode cX10_cold 37 = .ok (.ireturn, 1) := by decide +kernel
theorem dX10_envy_0 : decode cX10_envy 0 = .ok (.aload_n 0, 1) := by decide +kernel
theorem dX10_envy_1 : decode cX10_envy 1 = .ok (.aload_n 0, 1) := by decide +kernel
theorem dX10_envy_2 : decode cX10_envy 2 = .ok (.iload_n 1, 1) := by decide +kernel
theorem dX10_envy_3 : decode cX10_envy 3 = .ok (.invokevirtual 100, 3) := by decide +kernel
theorem dX10_envy_6 : decode cX10_envy 6 = .ok (.aload_n 0, 1) := by decide +kernel
theorem dX10_envy_7 : decode cX10_envy 7 = .ok (.iload_n 1, 1) := by decide +kernel
theorem dX10_envy_8 : decode cX10_envy 8 = .ok (.invokevirtual 138, 3) := by decide +kernel
theorem dX10_envy_11 : decode cX10_envy 11 = .ok (.invokevirtual 81, 3) := by decide +kernel
theorem dX10_envy_14 : decode cX10_envy 14 = .ok (.istore_n 2, 1) := by decide +kernel
theorem dX10_envy_15 : decode cX10_envy 15 = .ok (.iload_n 2, 1) := by decide +kernel
theorem dX10_envy_16 : decode cX10_envy 16 = .ok (.ifCond .eq 7, 3) := by decide +kernel
theorem dX10_envy_19 : decode cX10_envy 19 = .ok (.iload_n 2, 1) := by decide +kernel
theorem dX10_envy_20 : decode cX10_envy 20 = .ok (.goto 11, 3) := by decide +kernel
theorem dX10_envy_23 : decode cX10_envy 23 = .ok (.aload_n 0, 1) := by decide +kernel
theorem dX10_envy_24 : decode cX10_envy 24 = .ok (.getfield 32, 3) := by decide +kernel
theorem dX10_envy_27 : decode cX10_envy 27 = .ok (.iload_n 1, 1) := by decide +kernel
theorem dX10_envy_28 : decode cX10_envy 28 = .ok (.invokevirtual 233, 3) := by decide +kernel
theorem dX10_envy_31 : decode cX10_envy 31 = .ok (.ireturn, 1) := by decide +kernel
theorem dX10_power_0 : decode cX10_power 0 = .ok (.aload_n 0, 1) := by decide +kernel
theorem dX10_power_1 : decode cX10_power 1 = .ok (.aload_n 0, 1) := by decide +kernel
theorem dX10_power_2 : decode cX10_power 2 = .ok (.iload_n 1, 1) := by decide +kernel
theorem dX10_power_3 : decode cX10_power 3 = .ok (.invokevirtual 100, 3) := by decide +kernel
theorem dX10_power_6 : decode cX10_power 6 = .ok (.iload_n 2, 1) := by decide +kernel
theorem dX10_power_7 : decode cX10_power 7 = .ok (.iconst 1, 1) := by decide +kernel
theorem dX10_power_8 : decode cX10_power 8 = .ok (.bipush 60, 2) := by decide +kernel
theorem dX10_power_10 : decode cX10_power 10 = .ok (.invokestatic 73, 3) := by decide +kernel
theorem dX10_power_13 : decode cX10_power 13 = .ok (.aload_n 0, 1) := by decide +kernel
theorem dX10_power_14 : decode cX10_power 14 = .ok (.iload_n 1, 1) := by decide +kernel
theorem dX10_power_15 : decode cX10_power 15 = .ok (.invokevirtual 138, 3) := by decide +kernel
theorem dX10_power_18 : decode cX10_power 18 = .ok (.invokevirtual 141, 3) := by decide +kernel
theorem dX10_power_21 : decode cX10_power 21 = .ok (.istore_n 3, 1) := by decide +kernel
theorem dX10_power_22 : decode cX10_power 22 = .ok (.iload_n 3, 1) := by decide +kernel
theorem dX10_power_23 : decode cX10_power 23 = .ok (.ifCond .eq 7, 3) := by decide +kernel
theorem dX10_power_26 : decode cX10_power 26 = .ok (.iload_n 3, 1) := by decide +kernel
theorem dX10_power_27 : decode cX10_power 27 = .ok (.goto 12, 3) := by decide +kernel
theorem dX10_power_30 : decode cX10_power 30 = .ok (.aload_n 0, 1) := by decide +kernel
theorem dX10_power_31 : decode cX10_power 31 = .ok (.getfield 47, 3) := by decide +kernel
theorem dX10_power_34 : decode cX10_power 34 = .ok (.iload_n 1, 1) := by decide +kernel
theorem dX10_power_35 : decode cX10_power 35 = .ok (.iload_n 2, 1) := by decide +kernel
theorem dX10_power_36 : decode cX10_power 36 = .ok (.invokevirtual 236, 3) := by decide +kernel
theorem dX10_power_39 : decode cX10_power 39 = .ok (.ireturn, 1) := by decide +kernel
theorem dX10_voids_0 : decode cX10_voids 0 = .ok (.aload_n 0, 1) := by decide +kernel
theorem dX10_voids_1 : decode cX10_voids 1 = .ok (.iload_n 1, 1) := by decide +kernel
theorem dX10_voids_2 : decode cX10_voids 2 = .ok (.iconst 1, 1) := by decide +kernel
theorem dX10_voids_3 : decode cX10_voids 3 = .ok (.bipush 99, 2) := by decide +kernel
theorem dX10_voids_5 : decode cX10_voids 5 = .ok (.invokestatic 73, 3) := by decide +kernel
theorem dX10_voids_8 : decode cX10_voids 8 = .ok (.invokevirtual 129, 3) := by decide +kernel
theorem dX10_voids_11 : decode cX10_voids 11 = .ok (.istore_n 2, 1) := by decide +kernel
theorem dX10_voids_12 : decode cX10_voids 12 = .ok (.iload_n 2, 1) := by decide +kernel
theorem dX10_voids_13 : decode cX10_voids 13 = .ok (.ifCond .eq 7, 3) := by decide +kernel
theorem dX10_voids_16 : decode cX10_voids 16 = .ok (.iload_n 2, 1) := by decide +kernel
theorem dX10_voids_17 : decode cX10_voids 17 = .ok (.goto 11, 3) := by decide +kernel
theorem dX10_voids_20 : decode cX10_voids 20 = .ok (.aload_n 0, 1) := by decide +kernel
theorem dX10_voids_21 : decode cX10_voids 21 = .ok (.getfield 47, 3) := by decide +kernel
theorem dX10_voids_24 : decode cX10_voids 24 = .ok (.iload_n 1, 1) := by decide +kernel
theorem dX10_voids_25 : decode cX10_voids 25 = .ok (.invokevirtual 239, 3) := by decide +kernel
theorem dX10_voids_28 : decode cX10_voids 28 = .ok (.ireturn, 1) := by decide +kernel
theorem dX10_hill_0 : decode cX10_hill 0 = .ok (.aload_n 0, 1) := by decide +kernel
theorem dX10_hill_1 : decode cX10_hill 1 = .ok (.getfield 32, 3) := by decide +kernel
theorem dX10_hill_4 : decode cX10_hill 4 = .ok (.invokevirtual 242, 3) := by decide +kernel
theorem dX10_hill_7 : decode cX10_hill 7 = .ok (.ireturn, 1) := by decide +kernel
theorem dX10_two_0 : decode cX10_two 0 = .ok (.aload_n 0, 1) := by decide +kernel
theorem dX10_two_1 : decode cX10_two 1 = .ok (.aload_n 0, 1) := by decide +kernel
theorem dX10_two_2 : decode cX10_two 2 = .ok (.iload_n 1, 1) := by decide +kernel
theorem dX10_two_3 : decode cX10_two 3 = .ok (.iload_n 2, 1) := by decide +kernel
theorem dX10_two_4 : decode cX10_two 4 = .ok (.invokevirtual 126, 3) := by decide +kernel
theorem dX10_two_7 : decode cX10_two 7 = .ok (.iload_n 3, 1) := by decide +kernel
theorem dX10_two_8 : decode cX10_two 8 = .ok (.iconst 0, 1) := by decide +kernel
theorem dX10_two_9 : decode cX10_two 9 = .ok (.bipush 30, 2) := by decide +kernel
theorem dX10_two_11 : decode cX10_two 11 = .ok (.invokestatic 73, 3) := by decide +kernel
theorem dX10_two_14 : decode cX10_two 14 = .ok (.aload_n 0, 1) := by decide +kernel
theorem dX10_two_15 : decode cX10_two 15 = .ok (.iload_n 1, 1) := by decide +kernel
theorem dX10_two_16 : decode cX10_two 16 = .ok (.invokevirtual 138, 3) := by decide +kernel
theorem dX10_two_19 : decode cX10_two 19 = .ok (.aload_n 0, 1) := by decide +kernel
theorem dX10_two_20 : decode cX10_two 20 = .ok (.iload_n 2, 1) := by decide +kernel
theorem dX10_two_21 : decode cX10_two 21 = .ok (.invokevirtual 138, 3) := by decide +kernel
theorem dX10_two_24 : decode cX10_two 24 = .ok (.invokevirtual 245, 3) := by decide +kernel
theorem dX10_two_27 : decode cX10_two 27 = .ok (.istore 4, 2) := by decide +kernel
theorem dX10_two_29 : decode cX10_two 29 = .ok (.iload 4, 2) := by decide +kernel
theorem dX10_two_31 : decode cX10_two 31 = .ok (.ifCond .eq 8, 3) := by decide +kernel
theorem dX10_two_34 : decode cX10_two 34 = .ok (.iload 4, 2) := by decide +kernel
theorem dX10_two_36 : decode cX10_two 36 = .ok (.goto 13, 3) := by decide +kernel
theorem dX10_two_39 : decode cX10_two 39 = .ok (.aload_n 0, 1) := by decide +kernel
theorem dX10_two_40 : decode cX10_two 40 = .ok (.getfield 47, 3) := by decide +kernel
theorem dX10_two_43 : decode cX10_two 43 = .ok (.iload_n 1, 1) := by decide +kernel
theorem dX10_two_44 : decode cX10_two 44 = .ok (.iload_n 2, 1) := by decide +kernel
theorem dX10_two_45 : decode cX10_two 45 = .ok (.iload_n 3, 1) := by decide +kernel
theorem dX10_two_46 : decode cX10_two 46 = .ok (.invokevirtual 248, 3) := by decide +kernel
theorem dX10_two_49 : decode cX10_two 49 = .ok (.ireturn, 1) := by decide +kernel
theorem dX10_feast_0 : decode cX10_feast 0 = .ok (.iload_n 2, 1) := by decide +kernel
theorem dX10_feast_1 : decode cX10_feast 1 = .ok (.ifCond .lt 8, 3) := by decide +kernel
theorem dX10_feast_4 : decode cX10_feast 4 = .ok (.iload_n 3, 1) := by decide +kernel
theorem dX10_feast_5 : decode cX10_feast 5 = .ok (.iconst 2, 1) := by decide +kernel
theorem dX10_feast_6 : decode cX10_feast 6 = .ok (.if_icmp .ge 8, 3) := by decide +kernel
theorem dX10_feast_9 : decode cX10_feast 9 = .ok (.bipush (-4), 2) := by decide +kernel
theorem dX10_feast_11 : decode cX10_feast 11 = .ok (.goto 4, 3) := by decide +kernel
theorem dX10_feast_14 : decode cX10_feast 14 = .ok (.iconst 0, 1) := by decide +kernel
theorem dX10_feast_15 : decode cX10_feast 15 = .ok (.istore 5, 2) := by decide +kernel
theorem dX10_feast_17 : decode cX10_feast 17 = .ok (.iload_n 2, 1) := by decide +kernel
theorem dX10_feast_18 : decode cX10_feast 18 = .ok (.bipush 7, 2) := by decide +kernel
theorem dX10_feast_20 : decode cX10_feast 20 = .ok (.if_icmp .gt 9, 3) := by decide +kernel
theorem dX10_feast_23 : decode cX10_feast 23 = .ok (.iload_n 3, 1) := by decide +kernel
theorem dX10_feast_24 : decode cX10_feast 24 = .ok (.bipush 20, 2) := by decide +kernel
theorem dX10_feast_26 : decode cX10_feast 26 = .ok (.if_icmp .le 8, 3) := by decide +kernel
theorem dX10_feast_29 : decode cX10_feast 29 = .ok (.bipush (-6), 2) := by decide +kernel
theorem dX10_feast_31 : decode cX10_feast 31 = .ok (.goto 4, 3) := by decide +kernel
theorem dX10_feast_34 : decode cX10_feast 34 = .ok (.iconst 0, 1) := by decide +kernel
theorem dX10_feast_35 : decode cX10_feast 35 = .ok (.istore 6, 2) := by decide +kernel
theorem dX10_feast_37 : decode cX10_feast 37 = .ok (.aload_n 0, 1) := by decide +kernel
theorem dX10_feast_38 : decode cX10_feast 38 = .ok (.aload_n 0, 1) := by decide +kernel
theorem dX10_feast_39 : decode cX10_feast 39 = .ok (.iload_n 1, 1) := by decide +kernel
theorem dX10_feast_40 : decode cX10_feast 40 = .ok (.invokevirtual 100, 3) := by decide +kernel
theorem dX10_feast_43 : decode cX10_feast 43 = .ok (.iload 5, 2) := by decide +kernel
theorem dX10_feast_45 : decode cX10_feast 45 = .ok (.iload 6, 2) := by decide +kernel
theorem dX10_feast_47 : decode cX10_feast 47 = .ok (.iload 4, 2) := by decide +kernel
theorem dX10_feast_49 : decode cX10_feast 49 = .ok (.iconst 1, 1) := by decide +kernel
theorem dX10_feast_50 : decode cX10_feast 50 = .ok (.invokestatic 103, 3) := by decide +kernel
theorem dX10_feast_53 : decode cX10_feast 53 = .ok (.invokevirtual 245, 3) := by decide +kernel
theorem dX10_feast_56 : decode cX10_feast 56 = .ok (.istore 7, 2) := by decide +kernel
theorem dX10_feast_58 : decode cX10_feast 58 = .ok (.iload 7, 2) := by decide +kernel
theorem dX10_feast_60 : decode cX10_feast 60 = .ok (.ifCond .eq 11, 3) := by decide +kernel
theorem dX10_feast_63 : decode cX10_feast 63 = .ok (.ldc2_w 251, 3) := by decide +kernel
theorem dX10_feast_66 : decode cX10_feast 66 = .ok (.iload 7, 2) := by decide +kernel
theorem dX10_feast_68 : decode cX10_feast 68 = .ok (.i2l, 1) := by decide +kernel
theorem dX10_feast_69 : decode cX10_feast 69 = .ok (.lsub, 1) := by decide +kernel
theorem dX10_feast_70 : decode cX10_feast 70 = .ok (.lreturn, 1) := by decide +kernel
theorem dX10_feast_71 : decode cX10_feast 71 = .ok (.aload_n 0, 1) := by decide +kernel
theorem dX10_feast_72 : decode cX10_feast 72 = .ok (.getfield 47, 3) := by decide +kernel
theorem dX10_feast_75 : decode cX10_feast 75 = .ok (.iload_n 1, 1) := by decide +kernel
theorem dX10_feast_76 : decode cX10_feast 76 = .ok (.iload_n 2, 1) := by decide +kernel
theorem dX10_feast_77 : decode cX10_feast 77 = .ok (.iload_n 3, 1) := by decide +kernel
theorem dX10_feast_78 : decode cX10_feast 78 = .ok (.invokevirtual 253, 3) := by decide +kernel
theorem dX10_feast_81 : decode cX10_feast 81 = .ok (.iload_n 3, 1) := by decide +kernel
theorem dX10_feast_82 : decode cX10_feast 82 = .ok (.iload_n 2, 1) := by decide +kernel
theorem dX10_feast_83 : decode cX10_feast 83 = .ok (.invokestatic 257, 3) := by decide +kernel
theorem dX10_feast_86 : decode cX10_feast 86 = .ok (.iload 4, 2) := by decide +kernel
theorem dX10_feast_88 : decode cX10_feast 88 = .ok (.invokestatic 261, 3) := by decide +kernel
theorem dX10_feast_91 : decode cX10_feast 91 = .ok (.lreturn, 1) := by decide +kernel
theorem dX10_mean_0 : decode cX10_mean 0 = .ok (.aload_n 0, 1) := by decide +kernel
theorem dX10_mean_1 : decode cX10_mean 1 = .ok (.iload_n 1, 1) := by decide +kernel
theorem dX10_mean_2 : decode cX10_mean 2 = .ok (.iconst 1, 1) := by decide +kernel
theorem dX10_mean_3 : decode cX10_mean 3 = .ok (.invokestatic 103, 3) := by decide +kernel
theorem dX10_mean_6 : decode cX10_mean 6 = .ok (.invokevirtual 129, 3) := by decide +kernel
theorem dX10_mean_9 : decode cX10_mean 9 = .ok (.istore_n 2, 1) := by decide +kernel
theorem dX10_mean_10 : decode cX10_mean 10 = .ok (.iload_n 2, 1) := by decide +kernel
theorem dX10_mean_11 : decode cX10_mean 11 = .ok (.ifCond .eq 10, 3) := by decide +kernel
theorem dX10_mean_14 : decode cX10_mean 14 = .ok (.ldc2_w 251, 3) := by decide +kernel
theorem dX10_mean_17 : decode cX10_mean 17 = .ok (.iload_n 2, 1) := by decide +kernel
theorem dX10_mean_18 : decode cX10_mean 18 = .ok (.i2l, 1) := by decide +kernel
theorem dX10_mean_19 : decode cX10_mean 19 = .ok (.lsub, 1) := by decide +kernel
theorem dX10_mean_20 : decode cX10_mean 20 = .ok (.lreturn, 1) := by decide +kernel
theorem dX10_mean_21 : decode cX10_mean 21 = .ok (.aload_n 0, 1) := by decide +kernel
theorem dX10_mean_22 : decode cX10_mean 22 = .ok (.getfield 32, 3) := by decide +kernel
theorem dX10_mean_25 : decode cX10_mean 25 = .ok (.invokevirtual 265, 3) := by decide +kernel
theorem dX10_mean_28 : decode cX10_mean 28 = .ok (.i2l, 1) := by decide +kernel
theorem dX10_mean_29 : decode cX10_mean 29 = .ok (.iconst 1, 1) := by decide +kernel
theorem dX10_mean_30 : decode cX10_mean 30 = .ok (.aload_n 0, 1) := by decide +kernel
theorem dX10_mean_31 : decode cX10_mean 31 = .ok (.getfield 32, 3) := by decide +kernel
theorem dX10_mean_34 : decode cX10_mean 34 = .ok (.invokevirtual 154, 3) := by decide +kernel
theorem dX10_mean_37 : decode cX10_mean 37 = .ok (.invokestatic 268, 3) := by decide +kernel
theorem dX10_mean_40 : decode cX10_mean 40 = .ok (.i2l, 1) := by decide +kernel
theorem dX10_mean_41 : decode cX10_mean 41 = .ok (.iload_n 1, 1) := by decide +kernel
theorem dX10_mean_42 : decode cX10_mean 42 = .ok (.invokestatic 261, 3) := by decide +kernel
theorem dX10_mean_45 : decode cX10_mean 45 = .ok (.lreturn, 1) := by decide +kernel
theorem dX10_whatIs_0 : decode cX10_whatIs 0 = .ok (.aload_n 0, 1) := by decide +kernel
theorem dX10_whatIs_1 : decode cX10_whatIs 1 = .ok (.aload_n 0, 1) := by decide +kernel
theorem dX10_whatIs_2 : decode cX10_whatIs 2 = .ok (.iload_n 1, 1) := by decide +kernel
theorem dX10_whatIs_3 : decode cX10_whatIs 3 = .ok (.iload_n 2, 1) := by decide +kernel
theorem dX10_whatIs_4 : decode cX10_whatIs 4 = .ok (.invokevirtual 126, 3) := by decide +kernel
theorem dX10_whatIs_7 : decode cX10_whatIs 7 = .ok (.iload_n 3, 1) := by decide +kernel
theorem dX10_whatIs_8 : decode cX10_whatIs 8 = .ok (.iconst 1, 1) := by decide +kernel
theorem dX10_whatIs_9 : decode cX10_whatIs 9 = .ok (.invokestatic 103, 3) := by decide +kernel
theorem dX10_whatIs_12 : decode cX10_whatIs 12 = .ok (.invokevirtual 81, 3) := by decide +kernel
theorem dX10_whatIs_15 : decode cX10_whatIs 15 = .ok (.istore 4, 2) := by decide +kernel
theorem dX10_whatIs_17 : decode cX10_whatIs 17 = .ok (.iload 4, 2) := by decide +kernel
theorem dX10_whatIs_19 : decode cX10_whatIs 19 = .ok (.ifCond .eq 6, 3) := by decide +kernel
theorem dX10_whatIs_22 : decode cX10_whatIs 22 = .ok (.iload 4, 2) := by decide +kernel
theorem dX10_whatIs_24 : decode cX10_whatIs 24 = .ok (.ireturn, 1) := by decide +kernel
theorem dX10_whatIs_25 : decode cX10_whatIs 25 = .ok (.iload_n 3, 1) := by decide +kernel
theorem dX10_whatIs_26 : decode cX10_whatIs 26 = .ok (.ifCond .ne 19, 3) := by decide +kernel
theorem dX10_whatIs_29 : decode cX10_whatIs 29 = .ok (.aload_n 0, 1) := by decide +kernel
theorem dX10_whatIs_30 : decode cX10_whatIs 30 = .ok (.getfield 47, 3) := by decide +kernel
theorem dX10_whatIs_33 : decode cX10_whatIs 33 = .ok (.iload_n 1, 1) := by decide +kernel
theorem dX10_whatIs_34 : decode cX10_whatIs 34 = .ok (.iload_n 2, 1) := by decide +kernel
theorem dX10_whatIs_35 : decode cX10_whatIs 35 = .ok (.aload_n 0, 1) := by decide +kernel
theorem dX10_whatIs_36 : decode cX10_whatIs 36 = .ok (.getfield 61, 3) := by decide +kernel
theorem dX10_whatIs_39 : decode cX10_whatIs 39 = .ok (.invokevirtual 271, 3) := by decide +kernel
theorem dX10_whatIs_42 : decode cX10_whatIs 42 = .ok (.goto 16, 3) := by decide +kernel
theorem dX10_whatIs_45 : decode cX10_whatIs 45 = .ok (.aload_n 0, 1) := by decide +kernel
theorem dX10_whatIs_46 : decode cX10_whatIs 46 = .ok (.getfield 47, 3) := by decide +kernel
theorem dX10_whatIs_49 : decode cX10_whatIs 49 = .ok (.iload_n 1, 1) := by decide +kernel
theorem dX10_whatIs_50 : decode cX10_whatIs 50 = .ok (.iload_n 2, 1) := by decide +kernel
theorem dX10_whatIs_51 : decode cX10_whatIs 51 = .ok (.aload_n 0, 1) := by decide +kernel
theorem dX10_whatIs_52 : decode cX10_whatIs 52 = .ok (.getfield 61, 3) := by decide +kernel
theorem dX10_whatIs_55 : decode cX10_whatIs 55 = .ok (.invokevirtual 275, 3) := by decide +kernel
theorem dX10_whatIs_58 : decode cX10_whatIs 58 = .ok (.ireturn, 1) := by decide +kernel
theorem dX10_row_0 : decode cX10_row 0 = .ok (.aload_n 0, 1) := by decide +kernel
theorem dX10_row_1 : decode cX10_row 1 = .ok (.iload_n 1, 1) := by decide +kernel
theorem dX10_row_2 : decode cX10_row 2 = .ok (.iconst 0, 1) := by decide +kernel
theorem dX10_row_3 : decode cX10_row 3 = .ok (.bipush 99, 2) := by decide +kernel
theorem dX10_row_5 : decode cX10_row 5 = .ok (.invokestatic 73, 3) := by decide +kernel
theorem dX10_row_8 : decode cX10_row 8 = .ok (.aload_n 0, 1) := by decide +kernel
theorem dX10_row_9 : decode cX10_row 9 = .ok (.getfield 61, 3) := by decide +kernel
theorem dX10_row_12 : decode cX10_row 12 = .ok (.invokevirtual 278, 3) := by decide +kernel
theorem dX10_row_15 : decode cX10_row 15 = .ok (.ifCond .eq 8, 3) := by decide +kernel
theorem dX10_row_18 : decode cX10_row 18 = .ok (.bipush (-6), 2) := by decide +kernel
theorem dX10_row_20 : decode cX10_row 20 = .ok (.goto 4, 3) := by decide +kernel
theorem dX10_row_23 : decode cX10_row 23 = .ok (.iconst 0, 1) := by decide +kernel
theorem dX10_row_24 : decode cX10_row 24 = .ok (.invokevirtual 81, 3) := by decide +kernel
theorem dX10_row_27 : decode cX10_row 27 = .ok (.istore_n 2, 1) := by decide +kernel
theorem dX10_row_28 : decode cX10_row 28 = .ok (.iload_n 2, 1) := by decide +kernel
theorem dX10_row_29 : decode cX10_row 29 = .ok (.ifCond .eq 7, 3) := by decide +kernel
theorem dX10_row_32 : decode cX10_row 32 = .ok (.iload_n 2, 1) := by decide +kernel
theorem dX10_row_33 : decode cX10_row 33 = .ok (.goto 11, 3) := by decide +kernel
theorem dX10_row_36 : decode cX10_row 36 = .ok (.aload_n 0, 1) := by decide +kernel
theorem dX10_row_37 : decode cX10_row 37 = .ok (.getfield 61, 3) := by decide +kernel
theorem dX10_row_40 : decode cX10_row 40 = .ok (.iload_n 1, 1) := by decide +kernel
theorem dX10_row_41 : decode cX10_row 41 = .ok (.invokevirtual 279, 3) := by decide +kernel
theorem dX10_row_44 : decode cX10_row 44 = .ok (.ireturn, 1) := by decide +kernel
theorem dX10_judge_0 : decode cX10_judge 0 = .ok (.aload_n 0, 1) := by decide +kernel
theorem dX10_judge_1 : decode cX10_judge 1 = .ok (.getfield 47, 3) := by decide +kernel
theorem dX10_judge_4 : decode cX10_judge 4 = .ok (.aload_n 0, 1) := by decide +kernel
theorem dX10_judge_5 : decode cX10_judge 5 = .ok (.getfield 61, 3) := by decide +kernel
theorem dX10_judge_8 : decode cX10_judge 8 = .ok (.invokevirtual 280, 3) := by decide +kernel
theorem dX10_judge_11 : decode cX10_judge 11 = .ok (.istore_n 1, 1) := by decide +kernel
theorem dX10_judge_12 : decode cX10_judge 12 = .ok (.aload_n 0, 1) := by decide +kernel
theorem dX10_judge_13 : decode cX10_judge 13 = .ok (.getfield 61, 3) := by decide +kernel
theorem dX10_judge_16 : decode cX10_judge 16 = .ok (.invokevirtual 284, 3) := by decide +kernel
theorem dX10_judge_19 : decode cX10_judge 19 = .ok (.pop, 1) := by decide +kernel
theorem dX10_judge_20 : decode cX10_judge 20 = .ok (.iload_n 1, 1) := by decide +kernel
theorem dX10_judge_21 : decode cX10_judge 21 = .ok (.ireturn, 1) := by decide +kernel
theorem dX10_clear_0 : decode cX10_clear 0 = .ok (.aload_n 0, 1) := by decide +kernel
theorem dX10_clear_1 : decode cX10_clear 1 = .ok (.getfield 61, 3) := by decide +kernel
theorem dX10_clear_4 : decode cX10_clear 4 = .ok (.invokevirtual 284, 3) := by decide +kernel
theorem dX10_clear_7 : decode cX10_clear 7 = .ok (.ireturn, 1) := by decide +kernel
theorem dX10_lots_0 : decode cX10_lots 0 = .ok (.aload_n 0, 1) := by decide +kernel
theorem dX10_lots_1 : decode cX10_lots 1 = .ok (.iload_n 1, 1) := by decide +kernel
theorem dX10_lots_2 : decode cX10_lots 2 = .ok (.iconst 1, 1) := by decide +kernel
theorem dX10_lots_3 : decode cX10_lots 3 = .ok (.bipush 20, 2) := by decide +kernel
theorem dX10_lots_5 : decode cX10_lots 5 = .ok (.invokestatic 73, 3) := by decide +kernel
theorem dX10_lots_8 : decode cX10_lots 8 = .ok (.iload_n 3, 1) := by decide +kernel
theorem dX10_lots_9 : decode cX10_lots 9 = .ok (.iconst 1, 1) := by decide +kernel
theorem dX10_lots_10 : decode cX10_lots 10 = .ok (.invokestatic 103, 3) := by decide +kernel
theorem dX10_lots_13 : decode cX10_lots 13 = .ok (.invokevirtual 81, 3) := by decide +kernel
theorem dX10_lots_16 : decode cX10_lots 16 = .ok (.istore 4, 2) := by decide +kernel
theorem dX10_lots_18 : decode cX10_lots 18 = .ok (.iload 4, 2) := by decide +kernel
theorem dX10_lots_20 : decode cX10_lots 20 = .ok (.ifCond .eq 8, 3) := by decide +kernel
theorem dX10_lots_23 : decode cX10_lots 23 = .ok (.iload 4, 2) := by decide +kernel
theorem dX10_lots_25 : decode cX10_lots 25 = .ok (.goto 22, 3) := by decide +kernel
theorem dX10_lots_28 : decode cX10_lots 28 = .ok (.aload_n 0, 1) := by decide +kernel
theorem dX10_lots_29 : decode cX10_lots 29 = .ok (.getfield 47, 3) := by decide +kernel
theorem dX10_lots_32 : decode cX10_lots 32 = .ok (.iload_n 1, 1) := by decide +kernel
theorem dX10_lots_33 : decode cX10_lots 33 = .ok (.iload_n 2, 1) := by decide +kernel
theorem dX10_lots_34 : decode cX10_lots 34 = .ok (.iload_n 3, 1) := by decide +kernel
theorem dX10_lots_35 : decode cX10_lots 35 = .ok (.iconst 1, 1) := by decide +kernel
theorem dX10_lots_36 : decode cX10_lots 36 = .ok (.if_icmp .ne 7, 3) := by decide +kernel
theorem dX10_lots_39 : decode cX10_lots 39 = .ok (.iconst 1, 1) := by decide +kernel
theorem dX10_lots_40 : decode cX10_lots 40 = .ok (.goto 4, 3) := by decide +kernel
theorem dX10_lots_43 : decode cX10_lots 43 = .ok (.iconst 0, 1) := by decide +kernel
theorem dX10_lots_44 : decode cX10_lots 44 = .ok (.invokevirtual 287, 3) := by decide +kernel
theorem dX10_lots_47 : decode cX10_lots 47 = .ok (.ireturn, 1) := by decide +kernel
theorem dX10_image_0 : decode cX10_image 0 = .ok (.aload_n 0, 1) := by decide +kernel
theorem dX10_image_1 : decode cX10_image 1 = .ok (.getfield 36, 3) := by decide +kernel
theorem dX10_image_4 : decode cX10_image 4 = .ok (.aload_n 0, 1) := by decide +kernel
theorem dX10_image_5 : decode cX10_image 5 = .ok (.getfield 32, 3) := by decide +kernel
theorem dX10_image_8 : decode cX10_image 8 = .ok (.invokevirtual 89, 3) := by decide +kernel
theorem dX10_image_11 : decode cX10_image 11 = .ok (.aload_n 0, 1) := by decide +kernel
theorem dX10_image_12 : decode cX10_image 12 = .ok (.iconst 1, 1) := by decide +kernel
theorem dX10_image_13 : decode cX10_image 13 = .ok (.putfield 69, 3) := by decide +kernel
theorem dX10_image_16 : decode cX10_image 16 = .ok (.aload_n 0, 1) := by decide +kernel
theorem dX10_image_17 : decode cX10_image 17 = .ok (.getfield 32, 3) := by decide +kernel
theorem dX10_image_20 : decode cX10_image 20 = .ok (.getfield 162, 3) := by decide +kernel
theorem dX10_image_23 : decode cX10_image 23 = .ok (.ireturn, 1) := by decide +kernel
theorem dX10_on_0 : decode cX10_on 0 = .ok (.aload_n 0, 1) := by decide +kernel
theorem dX10_on_1 : decode cX10_on 1 = .ok (.aload_n 0, 1) := by decide +kernel
theorem dX10_on_2 : decode cX10_on 2 = .ok (.getfield 69, 3) := by decide +kernel
theorem dX10_on_5 : decode cX10_on 5 = .ok (.ifCond .eq 7, 3) := by decide +kernel
theorem dX10_on_8 : decode cX10_on 8 = .ok (.iconst 0, 1) := by decide +kernel
theorem dX10_on_9 : decode cX10_on 9 = .ok (.goto 5, 3) := by decide +kernel
theorem dX10_on_12 : decode cX10_on 12 = .ok (.bipush (-3), 2) := by decide +kernel
theorem dX10_on_14 : decode cX10_on 14 = .ok (.invokevirtual 129, 3) := by decide +kernel
theorem dX10_on_17 : decode cX10_on 17 = .ok (.istore_n 1, 1) := by decide +kernel
theorem dX10_on_18 : decode cX10_on 18 = .ok (.iload_n 1, 1) := by decide +kernel
theorem dX10_on_19 : decode cX10_on 19 = .ok (.ifCond .eq 5, 3) := by decide +kernel
theorem dX10_on_22 : decode cX10_on 22 = .ok (.iload_n 1, 1) := by decide +kernel
theorem dX10_on_23 : decode cX10_on 23 = .ok (.ireturn, 1) := by decide +kernel
theorem dX10_on_24 : decode cX10_on 24 = .ok (.aload_n 0, 1) := by decide +kernel
theorem dX10_on_25 : decode cX10_on 25 = .ok (.getfield 32, 3) := by decide +kernel
theorem dX10_on_28 : decode cX10_on 28 = .ok (.aload_n 0, 1) := by decide +kernel
theorem dX10_on_29 : decode cX10_on 29 = .ok (.getfield 36, 3) := by decide +kernel
theorem dX10_on_32 : decode cX10_on 32 = .ok (.invokevirtual 89, 3) := by decide +kernel
theorem dX10_on_35 : decode cX10_on 35 = .ok (.aload_n 0, 1) := by decide +kernel
theorem dX10_on_36 : decode cX10_on 36 = .ok (.getfield 32, 3) := by decide +kernel
theorem dX10_on_39 : decode cX10_on 39 = .ok (.getfield 162, 3) := by decide +kernel
theorem dX10_on_42 : decode cX10_on 42 = .ok (.ireturn, 1) := by decide +kernel
theorem dX10_count_0 : decode cX10_count 0 = .ok (.iload_n 1, 1) := by decide +kernel
theorem dX10_count_1 : decode cX10_count 1 = .ok (.bipush 11, 2) := by decide +kernel
theorem dX10_count_3 : decode cX10_count 3 = .ok (.if_icmp .lt 19, 3) := by decide +kernel
theorem dX10_count_6 : decode cX10_count 6 = .ok (.iload_n 1, 1) := by decide +kernel
theorem dX10_count_7 : decode cX10_count 7 = .ok (.bipush 16, 2) := by decide +kernel
theorem dX10_count_9 : decode cX10_count 9 = .ok (.if_icmp .gt 13, 3) := by decide +kernel
theorem dX10_count_12 : decode cX10_count 12 = .ok (.aload_n 0, 1) := by decide +kernel
theorem dX10_count_13 : decode cX10_count 13 = .ok (.getfield 65, 3) := by decide +kernel
theorem dX10_count_16 : decode cX10_count 16 = .ok (.iload_n 1, 1) := by decide +kernel
theorem dX10_count_17 : decode cX10_count 17 = .ok (.bipush 10, 2) := by decide +kernel
theorem dX10_count_19 : decode cX10_count 19 = .ok (.isub, 1) := by decide +kernel
theorem dX10_count_20 : decode cX10_count 20 = .ok (.iaload, 1) := by decide +kernel
theorem dX10_count_21 : decode cX10_count 21 = .ok (.ireturn, 1) := by decide +kernel
theorem dX10_count_22 : decode cX10_count 22 = .ok (.iload_n 1, 1) := by decide +kernel
theorem dX10_count_23 : decode cX10_count 23 = .ok (.tableswitch 109 0 7 #[45, 53, 61, 69, 77, 85, 93, 101], 45) := by decide +kernel
theorem dX10_count_68 : decode cX10_count 68 = .ok (.aload_n 0, 1) := by decide +kernel
theorem dX10_count_69 : decode cX10_count 69 = .ok (.getfield 32, 3) := by decide +kernel
theorem dX10_count_72 : decode cX10_count 72 = .ok (.getfield 291, 3) := by decide +kernel
theorem dX10_count_75 : decode cX10_count 75 = .ok (.ireturn, 1) := by decide +kernel
theorem dX10_count_76 : decode cX10_count 76 = .ok (.aload_n 0, 1) := by decide +kernel
theorem dX10_count_77 : decode cX10_count 77 = .ok (.getfield 32, 3) := by decide +kernel
theorem dX10_count_80 : decode cX10_count 80 = .ok (.getfield 162, 3) := by decide +kernel
theorem dX10_count_83 : decode cX10_count 83 = .ok (.ireturn, 1) := by decide +kernel
theorem dX10_count_84 : decode cX10_count 84 = .ok (.aload_n 0, 1) := by decide +kernel
theorem dX10_count_85 : decode cX10_count 85 = .ok (.getfield 32, 3) := by decide +kernel
theorem dX10_count_88 : decode cX10_count 88 = .ok (.invokevirtual 294, 3) := by decide +kernel
theorem dX10_count_91 : decode cX10_count 91 = .ok (.ireturn, 1) := by decide +kernel
theorem dX10_count_92 : decode cX10_count 92 = .ok (.aload_n 0, 1) := by decide +kernel
theorem dX10_count_93 : decode cX10_count 93 = .ok (.getfield 32, 3) := by decide +kernel
theorem dX10_count_96 : decode cX10_count 96 = .ok (.getfield 158, 3) := by decide +kernel
theorem dX10_count_99 : decode cX10_count 99 = .ok (.ireturn, 1) := by decide +kernel
theorem dX10_count_100 : decode cX10_count 100 = .ok (.aload_n 0, 1) := by decide +kernel
theorem dX10_count_101 : decode cX10_count 101 = .ok (.getfield 32, 3) := by decide +kernel
theorem dX10_count_104 : decode cX10_count 104 = .ok (.invokevirtual 265, 3) := by decide +kernel
theorem dX10_count_107 : decode cX10_count 107 = .ok (.ireturn, 1) := by decide +kernel
theorem dX10_count_108 : decode cX10_count 108 = .ok (.aload_n 0, 1) := by decide +kernel
theorem dX10_count_109 : decode cX10_count 109 = .ok (.getfield 32, 3) := by decide +kernel
theorem dX10_count_112 : decode cX10_count 112 = .ok (.invokevirtual 297, 3) := by decide +kernel
theorem dX10_count_115 : decode cX10_count 115 = .ok (.ireturn, 1) := by decide +kernel
theorem dX10_count_116 : decode cX10_count 116 = .ok (.aload_n 0, 1) := by decide +kernel
theorem dX10_count_117 : decode cX10_count 117 = .ok (.getfield 61, 3) := by decide +kernel
theorem dX10_count_120 : decode cX10_count 120 = .ok (.getfield 300, 3) := by decide +kernel
theorem dX10_count_123 : decode cX10_count 123 = .ok (.ireturn, 1) := by decide +kernel
theorem dX10_count_124 : decode cX10_count 124 = .ok (.aload_n 0, 1) := by decide +kernel
theorem dX10_count_125 : decode cX10_count 125 = .ok (.getfield 54, 3) := by decide +kernel
theorem dX10_count_128 : decode cX10_count 128 = .ok (.getfield 303, 3) := by decide +kernel
theorem dX10_count_131 : decode cX10_count 131 = .ok (.ireturn, 1) := by decide +kernel
theorem dX10_count_132 : decode cX10_count 132 = .ok (.bipush (-9), 2) := by decide +kernel
theorem dX10_count_134 : decode cX10_count 134 = .ok (.ireturn, 1) := by decide +kernel
theorem dX10_nobody_0 : decode cX10_nobody 0 = .ok (.aload_n 0, 1) := by decide +kernel
theorem dX10_nobody_1 : decode cX10_nobody 1 = .ok (.getfield 32, 3) := by decide +kernel
theorem dX10_nobody_4 : decode cX10_nobody 4 = .ok (.iload_n 1, 1) := by decide +kernel
theorem dX10_nobody_5 : decode cX10_nobody 5 = .ok (.invokevirtual 304, 3) := by decide +kernel
theorem dX10_nobody_8 : decode cX10_nobody 8 = .ok (.ifCond .eq 7, 3) := by decide +kernel
theorem dX10_nobody_11 : decode cX10_nobody 11 = .ok (.iconst 0, 1) := by decide +kernel
theorem dX10_nobody_12 : decode cX10_nobody 12 = .ok (.goto 4, 3) := by decide +kernel
theorem dX10_nobody_15 : decode cX10_nobody 15 = .ok (.iconst (-1), 1) := by decide +kernel
theorem dX10_nobody_16 : decode cX10_nobody 16 = .ok (.ireturn, 1) := by decide +kernel
theorem dX10_notTwo_0 : decode cX10_notTwo 0 = .ok (.aload_n 0, 1) := by decide +kernel
theorem dX10_notTwo_1 : decode cX10_notTwo 1 = .ok (.getfield 32, 3) := by decide +kernel
theorem dX10_notTwo_4 : decode cX10_notTwo 4 = .ok (.iload_n 1, 1) := by decide +kernel
theorem dX10_notTwo_5 : decode cX10_notTwo 5 = .ok (.iload_n 2, 1) := by decide +kernel
theorem dX10_notTwo_6 : decode cX10_notTwo 6 = .ok (.invokevirtual 307, 3) := by decide +kernel
theorem dX10_notTwo_9 : decode cX10_notTwo 9 = .ok (.ifCond .eq 7, 3) := by decide +kernel
theorem dX10_notTwo_12 : decode cX10_notTwo 12 = .ok (.iconst 0, 1) := by decide +kernel
theorem dX10_notTwo_13 : decode cX10_notTwo 13 = .ok (.goto 4, 3) := by decide +kernel
theorem dX10_notTwo_16 : decode cX10_notTwo 16 = .ok (.iconst (-1), 1) := by decide +kernel
theorem dX10_notTwo_17 : decode cX10_notTwo 17 = .ok (.ireturn, 1) := by decide +kernel
theorem dX10_forgotten_0 : decode cX10_forgotten 0 = .ok (.aload_n 0, 1) := by decide +kernel
theorem dX10_forgotten_1 : decode cX10_forgotten 1 = .ok (.getfield 32, 3) := by decide +kernel
theorem dX10_forgotten_4 : decode cX10_forgotten 4 = .ok (.iload_n 1, 1) := by decide +kernel
theorem dX10_forgotten_5 : decode cX10_forgotten 5 = .ok (.invokevirtual 304, 3) := by decide +kernel
theorem dX10_forgotten_8 : decode cX10_forgotten 8 = .ok (.ifCond .eq 20, 3) := by decide +kernel
theorem dX10_forgotten_11 : decode cX10_forgotten 11 = .ok (.aload_n 0, 1) := by decide +kernel
theorem dX10_forgotten_12 : decode cX10_forgotten 12 = .ok (.getfield 32, 3) := by decide +kernel
theorem dX10_forgotten_15 : decode cX10_forgotten 15 = .ok (.getfield 112, 3) := by decide +kernel
theorem dX10_forgotten_18 : decode cX10_forgotten 18 = .ok (.iload_n 1, 1) := by decide +kernel
theorem dX10_forgotten_19 : decode cX10_forgotten 19 = .ok (.baload, 1) := by decide +kernel
theorem dX10_forgotten_20 : decode cX10_forgotten 20 = .ok (.ifCond .ne 8, 3) := by decide +kernel
theorem dX10_forgotten_23 : decode cX10_forgotten 23 = .ok (.bipush (-3), 2) := by decide +kernel
theorem dX10_forgotten_25 : decode cX10_forgotten 25 = .ok (.goto 4, 3) := by decide +kernel
theorem dX10_forgotten_28 : decode cX10_forgotten 28 = .ok (.iconst 0, 1) := by decide +kernel
theorem dX10_forgotten_29 : decode cX10_forgotten 29 = .ok (.ireturn, 1) := by decide +kernel
theorem dX10_wrongWhat_0 : decode cX10_wrongWhat 0 = .ok (.iload_n 0, 1) := by decide +kernel
theorem dX10_wrongWhat_1 : decode cX10_wrongWhat 1 = .ok (.ifCond .lt 8, 3) := by decide +kernel
theorem dX10_wrongWhat_4 : decode cX10_wrongWhat 4 = .ok (.iload_n 0, 1) := by decide +kernel
theorem dX10_wrongWhat_5 : decode cX10_wrongWhat 5 = .ok (.iload_n 1, 1) := by decide +kernel
theorem dX10_wrongWhat_6 : decode cX10_wrongWhat 6 = .ok (.if_icmp .le 8, 3) := by decide +kernel
theorem dX10_wrongWhat_9 : decode cX10_wrongWhat 9 = .ok (.bipush (-2), 2) := by decide +kernel
theorem dX10_wrongWhat_11 : decode cX10_wrongWhat 11 = .ok (.goto 4, 3) := by decide +kernel
theorem dX10_wrongWhat_14 : decode cX10_wrongWhat 14 = .ok (.iconst 0, 1) := by decide +kernel
theorem dX10_wrongWhat_15 : decode cX10_wrongWhat 15 = .ok (.ireturn, 1) := by decide +kernel
theorem dX10_outside_0 : decode cX10_outside 0 = .ok (.iload_n 0, 1) := by decide +kernel
theorem dX10_outside_1 : decode cX10_outside 1 = .ok (.iload_n 1, 1) := by decide +kernel
theorem dX10_outside_2 : decode cX10_outside 2 = .ok (.if_icmp .ge 6, 3) := by decide +kernel
theorem dX10_outside_5 : decode cX10_outside 5 = .ok (.bipush (-4), 2) := by decide +kernel
theorem dX10_outside_7 : decode cX10_outside 7 = .ok (.ireturn, 1) := by decide +kernel
theorem dX10_outside_8 : decode cX10_outside 8 = .ok (.iload_n 0, 1) := by decide +kernel
theorem dX10_outside_9 : decode cX10_outside 9 = .ok (.iload_n 2, 1) := by decide +kernel
theorem dX10_outside_10 : decode cX10_outside 10 = .ok (.if_icmp .le 8, 3) := by decide +kernel
theorem dX10_outside_13 : decode cX10_outside 13 = .ok (.bipush (-6), 2) := by decide +kernel
theorem dX10_outside_15 : decode cX10_outside 15 = .ok (.goto 4, 3) := by decide +kernel
theorem dX10_outside_18 : decode cX10_outside 18 = .ok (.iconst 0, 1) := by decide +kernel
theorem dX10_outside_19 : decode cX10_outside 19 = .ok (.ireturn, 1) := by decide +kernel
theorem dX10_refused_0 : decode cX10_refused 0 = .ok (.aload_n 0, 1) := by decide +kernel
theorem dX10_refused_1 : decode cX10_refused 1 = .ok (.iload_n 1, 1) := by decide +kernel
theorem dX10_refused_2 : decode cX10_refused 2 = .ok (.invokevirtual 311, 3) := by decide +kernel
theorem dX10_refused_5 : decode cX10_refused 5 = .ok (.ireturn, 1) := by decide +kernel
theorem dX10_refused__0 : decode cX10_refused_ 0 = .ok (.aload_n 0, 1) := by decide +kernel
theorem dX10_refused__1 : decode cX10_refused_ 1 = .ok (.iload_n 1, 1) := by decide +kernel
theorem dX10_refused__2 : decode cX10_refused_ 2 = .ok (.iload_n 2, 1) := by decide +kernel
theorem dX10_refused__3 : decode cX10_refused_ 3 = .ok (.invokestatic 314, 3) := by decide +kernel
theorem dX10_refused__6 : decode cX10_refused_ 6 = .ok (.invokevirtual 311, 3) := by decide +kernel
theorem dX10_refused__9 : decode cX10_refused_ 9 = .ok (.ireturn, 1) := by decide +kernel
theorem dX10_refused___0 : decode cX10_refused__ 0 = .ok (.aload_n 0, 1) := by decide +kernel
theorem dX10_refused___1 : decode cX10_refused__ 1 = .ok (.iload_n 1, 1) := by decide +kernel
theorem dX10_refused___2 : decode cX10_refused__ 2 = .ok (.iload_n 2, 1) := by decide +kernel
theorem dX10_refused___3 : decode cX10_refused__ 3 = .ok (.invokestatic 314, 3) := by decide +kernel
theorem dX10_refused___6 : decode cX10_refused__ 6 = .ok (.iload_n 3, 1) := by decide +kernel
theorem dX10_refused___7 : decode cX10_refused__ 7 = .ok (.invokestatic 314, 3) := by decide +kernel
theorem dX10_refused___10 : decode cX10_refused__ 10 = .ok (.invokevirtual 311, 3) := by decide +kernel
theorem dX10_refused___13 : decode cX10_refused__ 13 = .ok (.ireturn, 1) := by decide +kernel
theorem dX10_refused____0 : decode cX10_refused___ 0 = .ok (.aload_n 0, 1) := by decide +kernel
theorem dX10_refused____1 : decode cX10_refused___ 1 = .ok (.iload_n 1, 1) := by decide +kernel
theorem dX10_refused____2 : decode cX10_refused___ 2 = .ok (.iload_n 2, 1) := by decide +kernel
theorem dX10_refused____3 : decode cX10_refused___ 3 = .ok (.invokestatic 314, 3) := by decide +kernel
theorem dX10_refused____6 : decode cX10_refused___ 6 = .ok (.iload_n 3, 1) := by decide +kernel
theorem dX10_refused____7 : decode cX10_refused___ 7 = .ok (.iload 4, 2) := by decide +kernel
theorem dX10_refused____9 : decode cX10_refused___ 9 = .ok (.invokestatic 314, 3) := by decide +kernel
theorem dX10_refused____12 : decode cX10_refused___ 12 = .ok (.invokestatic 314, 3) := by decide +kernel
theorem dX10_refused____15 : decode cX10_refused___ 15 = .ok (.invokevirtual 311, 3) := by decide +kernel
theorem dX10_refused____18 : decode cX10_refused___ 18 = .ok (.ireturn, 1) := by decide +kernel
theorem dX10_counted_0 : decode cX10_counted 0 = .ok (.iload_n 1, 1) := by decide +kernel
theorem dX10_counted_1 : decode cX10_counted 1 = .ok (.iconst (-1), 1) := by decide +kernel
theorem dX10_counted_2 : decode cX10_counted 2 = .ok (.if_icmp .gt 20, 3) := by decide +kernel
theorem dX10_counted_5 : decode cX10_counted 5 = .ok (.iload_n 1, 1) := by decide +kernel
theorem dX10_counted_6 : decode cX10_counted 6 = .ok (.bipush (-6), 2) := by decide +kernel
theorem dX10_counted_8 : decode cX10_counted 8 = .ok (.if_icmp .lt 14, 3) := by decide +kernel
theorem dX10_counted_11 : decode cX10_counted 11 = .ok (.aload_n 0, 1) := by decide +kernel
theorem dX10_counted_12 : decode cX10_counted 12 = .ok (.getfield 65, 3) := by decide +kernel
theorem dX10_counted_15 : decode cX10_counted 15 = .ok (.iload_n 1, 1) := by decide +kernel
theorem dX10_counted_16 : decode cX10_counted 16 = .ok (.ineg, 1) := by decide +kernel
theorem dX10_counted_17 : decode cX10_counted 17 = .ok (.dup2, 1) := by decide +kernel
theorem dX10_counted_18 : decode cX10_counted 18 = .ok (.iaload, 1) := by decide +kernel
theorem dX10_counted_19 : decode cX10_counted 19 = .ok (.iconst 1, 1) := by decide +kernel
theorem dX10_counted_20 : decode cX10_counted 20 = .ok (.iadd, 1) := by decide +kernel
theorem dX10_counted_21 : decode cX10_counted 21 = .ok (.iastore, 1) := by decide +kernel
theorem dX10_counted_22 : decode cX10_counted 22 = .ok (.iload_n 1, 1) := by decide +kernel
theorem dX10_counted_23 : decode cX10_counted 23 = .ok (.ireturn, 1) := by decide +kernel
theorem dX10_firstThatFits_0 : decode cX10_firstThatFits 0 = .ok (.iload_n 0, 1) := by decide +kernel
theorem dX10_firstThatFits_1 : decode cX10_firstThatFits 1 = .ok (.ifCond .eq 7, 3) := by decide +kernel
theorem dX10_firstThatFits_4 : decode cX10_firstThatFits 4 = .ok (.iload_n 0, 1) := by decide +kernel
theorem dX10_firstThatFits_5 : decode cX10_firstThatFits 5 = .ok (.goto 4, 3) := by decide +kernel
theorem dX10_firstThatFits_8 : decode cX10_firstThatFits 8 = .ok (.iload_n 1, 1) := by decide +kernel
theorem dX10_firstThatFits_9 : decode cX10_firstThatFits 9 = .ok (.ireturn, 1) := by decide +kernel
theorem dX10_noneIfNever_0 : decode cX10_noneIfNever 0 = .ok (.iload_n 0, 1) := by decide +kernel
theorem dX10_noneIfNever_1 : decode cX10_noneIfNever 1 = .ok (.bipush 100, 2) := by decide +kernel
theorem dX10_noneIfNever_3 : decode cX10_noneIfNever 3 = .ok (.if_icmp .ne 8, 3) := by decide +kernel
theorem dX10_noneIfNever_6 : decode cX10_noneIfNever 6 = .ok (.bipush (-9), 2) := by decide +kernel
theorem dX10_noneIfNever_8 : decode cX10_noneIfNever 8 = .ok (.goto 4, 3) := by decide +kernel
theorem dX10_noneIfNever_11 : decode cX10_noneIfNever 11 = .ok (.iload_n 0, 1) := by decide +kernel
theorem dX10_noneIfNever_12 : decode cX10_noneIfNever 12 = .ok (.ireturn, 1) := by decide +kernel
theorem dX10_partOf_0 : decode cX10_partOf 0 = .ok (.lload_n 0, 1) := by decide +kernel
theorem dX10_partOf_1 : decode cX10_partOf 1 = .ok (.lload_n 2, 1) := by decide +kernel
theorem dX10_partOf_2 : decode cX10_partOf 2 = .ok (.invokestatic 317, 3) := by decide +kernel
theorem dX10_partOf_5 : decode cX10_partOf 5 = .ok (.lstore 5, 2) := by decide +kernel
theorem dX10_partOf_7 : decode cX10_partOf 7 = .ok (.lload 5, 2) := by decide +kernel
theorem dX10_partOf_9 : decode cX10_partOf 9 = .ok (.lconst 1, 1) := by decide +kernel
theorem dX10_partOf_10 : decode cX10_partOf 10 = .ok (.lcmp, 1) := by decide +kernel
theorem dX10_partOf_11 : decode cX10_partOf 11 = .ok (.ifCond .ge 7, 3) := by decide +kernel
theorem dX10_partOf_14 : decode cX10_partOf 14 = .ok (.iload 4, 2) := by decide +kernel
theorem dX10_partOf_16 : decode cX10_partOf 16 = .ok (.i2l, 1) := by decide +kernel
theorem dX10_partOf_17 : decode cX10_partOf 17 = .ok (.lreturn, 1) := by decide +kernel
theorem dX10_partOf_18 : decode cX10_partOf 18 = .ok (.iload 4, 2) := by decide +kernel
theorem dX10_partOf_20 : decode cX10_partOf 20 = .ok (.ifCond .ne 7, 3) := by decide +kernel
theorem dX10_partOf_23 : decode cX10_partOf 23 = .ok (.lload_n 0, 1) := by decide +kernel
theorem dX10_partOf_24 : decode cX10_partOf 24 = .ok (.goto 4, 3) := by decide +kernel
theorem dX10_partOf_27 : decode cX10_partOf 27 = .ok (.lload_n 2, 1) := by decide +kernel
theorem dX10_partOf_28 : decode cX10_partOf 28 = .ok (.lload 5, 2) := by decide +kernel
theorem dX10_partOf_30 : decode cX10_partOf 30 = .ok (.ldiv, 1) := by decide +kernel
theorem dX10_partOf_31 : decode cX10_partOf 31 = .ok (.lreturn, 1) := by decide +kernel
theorem dX10_greatestDivisor_0 : decode cX10_greatestDivisor 0 = .ok (.lload_n 0, 1) := by decide +kernel
theorem dX10_greatestDivisor_1 : decode cX10_greatestDivisor 1 = .ok (.lstore 4, 2) := by decide +kernel
theorem dX10_greatestDivisor_3 : decode cX10_greatestDivisor 3 = .ok (.lload_n 2, 1) := by decide +kernel
theorem dX10_greatestDivisor_4 : decode cX10_greatestDivisor 4 = .ok (.lstore 6, 2) := by decide +kernel
theorem dX10_greatestDivisor_6 : decode cX10_greatestDivisor 6 = .ok (.iconst 0, 1) := by decide +kernel
theorem dX10_greatestDivisor_7 : decode cX10_greatestDivisor 7 = .ok (.istore 8, 2) := by decide +kernel
theorem dX10_greatestDivisor_9 : decode cX10_greatestDivisor 9 = .ok (.iload 8, 2) := by decide +kernel
theorem dX10_greatestDivisor_11 : decode cX10_greatestDivisor 11 = .ok (.bipush 100, 2) := by decide +kernel
theorem dX10_greatestDivisor_13 : decode cX10_greatestDivisor 13 = .ok (.if_icmp .ge 31, 3) := by decide +kernel
theorem dX10_greatestDivisor_16 : decode cX10_greatestDivisor 16 = .ok (.lload 6, 2) := by decide +kernel
theorem dX10_greatestDivisor_18 : decode cX10_greatestDivisor 18 = .ok (.lconst 0, 1) := by decide +kernel
theorem dX10_greatestDivisor_19 : decode cX10_greatestDivisor 19 = .ok (.lcmp, 1) := by decide +kernel
theorem dX10_greatestDivisor_20 : decode cX10_greatestDivisor 20 = .ok (.ifCond .eq 24, 3) := by decide +kernel
theorem dX10_greatestDivisor_23 : decode cX10_greatestDivisor 23 = .ok (.lload 4, 2) := by decide +kernel
theorem dX10_greatestDivisor_25 : decode cX10_greatestDivisor 25 = .ok (.lload 6, 2) := by decide +kernel
theorem dX10_greatestDivisor_27 : decode cX10_greatestDivisor 27 = .ok (.lrem, 1) := by decide +kernel
theorem dX10_greatestDivisor_28 : decode cX10_greatestDivisor 28 = .ok (.lstore 9, 2) := by decide +kernel
theorem dX10_greatestDivisor_30 : decode cX10_greatestDivisor 30 = .ok (.lload 6, 2) := by decide +kernel
theorem dX10_greatestDivisor_32 : decode cX10_greatestDivisor 32 = .ok (.lstore 4, 2) := by decide +kernel
theorem dX10_greatestDivisor_34 : decode cX10_greatestDivisor 34 = .ok (.lload 9, 2) := by decide +kernel
theorem dX10_greatestDivisor_36 : decode cX10_greatestDivisor 36 = .ok (.lstore 6, 2) := by decide +kernel
theorem dX10_greatestDivisor_38 : decode cX10_greatestDivisor 38 = .ok (.iinc 8 1, 3) := by decide +kernel
theorem dX10_greatestDivisor_41 : decode cX10_greatestDivisor 41 = .ok (.goto (-32), 3) := by decide +kernel
theorem dX10_greatestDivisor_44 : decode cX10_greatestDivisor 44 = .ok (.lload 4, 2) := by decide +kernel
theorem dX10_greatestDivisor_46 : decode cX10_greatestDivisor 46 = .ok (.lreturn, 1) := by decide +kernel
theorem dX10_raised_0 : decode cX10_raised 0 = .ok (.lconst 1, 1) := by decide +kernel
theorem dX10_raised_1 : decode cX10_raised 1 = .ok (.lstore_n 2, 1) := by decide +kernel
theorem dX10_raised_2 : decode cX10_raised 2 = .ok (.iconst 0, 1) := by decide +kernel
theorem dX10_raised_3 : decode cX10_raised 3 = .ok (.istore 4, 2) := by decide +kernel
theorem dX10_raised_5 : decode cX10_raised 5 = .ok (.iload 4, 2) := by decide +kernel
theorem dX10_raised_7 : decode cX10_raised 7 = .ok (.iload_n 1, 1) := by decide +kernel
theorem dX10_raised_8 : decode cX10_raised 8 = .ok (.if_icmp .ge 14, 3) := by decide +kernel
theorem dX10_raised_11 : decode cX10_raised 11 = .ok (.lload_n 2, 1) := by decide +kernel
theorem dX10_raised_12 : decode cX10_raised 12 = .ok (.iload_n 0, 1) := by decide +kernel
theorem dX10_raised_13 : decode cX10_raised 13 = .ok (.i2l, 1) := by decide +kernel
theorem dX10_raised_14 : decode cX10_raised 14 = .ok (.lmul, 1) := by decide +kernel
theorem dX10_raised_15 : decode cX10_raised 15 = .ok (.lstore_n 2, 1) := by decide +kernel
theorem dX10_raised_16 : decode cX10_raised 16 = .ok (.iinc 4 1, 3) := by decide +kernel
theorem dX10_raised_19 : decode cX10_raised 19 = .ok (.goto (-14), 3) := by decide +kernel
theorem dX10_raised_22 : decode cX10_raised 22 = .ok (.lload_n 2, 1) := by decide +kernel
theorem dX10_raised_23 : decode cX10_raised 23 = .ok (.lreturn, 1) := by decide +kernel
theorem dX11_init_0 : decode cX11_init 0 = .ok (.aload_n 0, 1) := by decide +kernel
theorem dX11_init_1 : decode cX11_init 1 = .ok (.invokespecial 1, 3) := by decide +kernel
theorem dX11_init_4 : decode cX11_init 4 = .ok (.aload_n 0, 1) := by decide +kernel
theorem dX11_init_5 : decode cX11_init 5 = .ok (.bipush 99, 2) := by decide +kernel
theorem dX11_init_7 : decode cX11_init 7 = .ok (.newarray .int, 2) := by decide +kernel
theorem dX11_init_9 : decode cX11_init 9 = .ok (.putfield 9, 3) := by decide +kernel
theorem dX11_init_12 : decode cX11_init 12 = .ok (.aload_n 0, 1) := by decide +kernel
theorem dX11_init_13 : decode cX11_init 13 = .ok (.bipush 99, 2) := by decide +kernel
theorem dX11_init_15 : decode cX11_init 15 = .ok (.newarray .int, 2) := by decide +kernel
theorem dX11_init_17 : decode cX11_init 17 = .ok (.putfield 13, 3) := by decide +kernel
theorem dX11_init_20 : decode cX11_init 20 = .ok (.aload_n 0, 1) := by decide +kernel
theorem dX11_init_21 : decode cX11_init 21 = .ok (.bipush 99, 2) := by decide +kernel
theorem dX11_init_23 : decode cX11_init 23 = .ok (.newarray .int, 2) := by decide +kernel
theorem dX11_init_25 : decode cX11_init 25 = .ok (.putfield 16, 3) := by decide +kernel
theorem dX11_init_28 : decode cX11_init 28 = .ok (.aload_n 0, 1) := by decide +kernel
theorem dX11_init_29 : decode cX11_init 29 = .ok (.bipush 99, 2) := by decide +kernel
theorem dX11_init_31 : decode cX11_init 31 = .ok (.newarray .int, 2) := by decide +kernel
theorem dX11_init_33 : decode cX11_init 33 = .ok (.putfield 19, 3) := by decide +kernel
theorem dX11_init_36 : decode cX11_init 36 = .ok (.aload_n 0, 1) := by decide +kernel
theorem dX11_init_37 : decode cX11_init 37 = .ok (.bipush 96, 2) := by decide +kernel
theorem dX11_init_39 : decode cX11_init 39 = .ok (.newarray .int, 2) := by decide +kernel
theorem dX11_init_41 : decode cX11_init 41 = .ok (.putfield 22, 3) := by decide +kernel
theorem dX11_init_44 : decode cX11_init 44 = .ok (.aload_n 0, 1) := by decide +kernel
theorem dX11_init_45 : decode cX11_init 45 = .ok (.bipush 16, 2) := by decide +kernel
theorem dX11_init_47 : decode cX11_init 47 = .ok (.newarray .int, 2) := by decide +kernel
theorem dX11_init_49 : decode cX11_init 49 = .ok (.putfield 25, 3) := by decide +kernel
theorem dX11_init_52 : decode cX11_init 52 = .ok (.aload_n 0, 1) := by decide +kernel
theorem dX11_init_53 : decode cX11_init 53 = .ok (.bipush 7, 2) := by decide +kernel
theorem dX11_init_55 : decode cX11_init 55 = .ok (.newarray .int, 2) := by decide +kernel
theorem dX11_init_57 : decode cX11_init 57 = .ok (.putfield 28, 3) := by decide +kernel
theorem dX11_init_60 : decode cX11_init 60 = .ok (.aload_n 0, 1) := by decide +kernel
theorem dX11_init_61 : decode cX11_init 61 = .ok (.iconst 3, 1) := by decide +kernel
theorem dX11_init_62 : decode cX11_init 62 = .ok (.newarray .int, 2) := by decide +kernel
theorem dX11_init_64 : decode cX11_init 64 = .ok (.putfield 31, 3) := by decide +kernel
theorem dX11_init_67 : decode cX11_init 67 = .ok (.aload_n 0, 1) := by decide +kernel
theorem dX11_init_68 : decode cX11_init 68 = .ok (.getfield 9, 3) := by decide +kernel
theorem dX11_init_71 : decode cX11_init 71 = .ok (.iconst 2, 1) := by decide +kernel
theorem dX11_init_72 : decode cX11_init 72 = .ok (.iconst 1, 1) := by decide +kernel
theorem dX11_init_73 : decode cX11_init 73 = .ok (.iastore, 1) := by decide +kernel
theorem dX11_init_74 : decode cX11_init 74 = .ok (.return_, 1) := by decide +kernel
theorem dX11_isIn_0 : decode cX11_isIn 0 = .ok (.iload_n 0, 1) := by decide +kernel
theorem dX11_isIn_1 : decode cX11_isIn 1 = .ok (.iload_n 1, 1) := by decide +kernel
theorem dX11_isIn_2 : decode cX11_isIn 2 = .ok (.if_icmp .lt 12, 3) := by decide +kernel
theorem dX11_isIn_5 : decode cX11_isIn 5 = .ok (.iload_n 0, 1) := by decide +kernel
theorem dX11_isIn_6 : decode cX11_isIn 6 = .ok (.iload_n 2, 1) := by decide +kernel
theorem dX11_isIn_7 : decode cX11_isIn 7 = .ok (.if_icmp .gt 7, 3) := by decide +kernel
theorem dX11_isIn_10 : decode cX11_isIn 10 = .ok (.iconst 1, 1) := by decide +kernel
theorem dX11_isIn_11 : decode cX11_isIn 11 = .ok (.goto 4, 3) := by decide +kernel
theorem dX11_isIn_14 : decode cX11_isIn 14 = .ok (.iconst 0, 1) := by decide +kernel
theorem dX11_isIn_15 : decode cX11_isIn 15 = .ok (.ireturn, 1) := by decide +kernel
theorem dX11_held_0 : decode cX11_held 0 = .ok (.iload_n 0, 1) := by decide +kernel
theorem dX11_held_1 : decode cX11_held 1 = .ok (.ifCond .ge 7, 3) := by decide +kernel
theorem dX11_held_4 : decode cX11_held 4 = .ok (.iconst 0, 1) := by decide +kernel
theorem dX11_held_5 : decode cX11_held 5 = .ok (.goto 15, 3) := by decide +kernel
theorem dX11_held_8 : decode cX11_held 8 = .ok (.iload_n 0, 1) := by decide +kernel
theorem dX11_held_9 : decode cX11_held 9 = .ok (.bipush 99, 2) := by decide +kernel
theorem dX11_held_11 : decode cX11_held 11 = .ok (.if_icmp .le 8, 3) := by decide +kernel
theorem dX11_held_14 : decode cX11_held 14 = .ok (.bipush 99, 2) := by decide +kernel
theorem dX11_held_16 : decode cX11_held 16 = .ok (.goto 4, 3) := by decide +kernel
theorem dX11_held_19 : decode cX11_held 19 = .ok (.iload_n 0, 1) := by decide +kernel
theorem dX11_held_20 : decode cX11_held 20 = .ok (.ireturn, 1) := by decide +kernel
theorem dX11_copies_0 : decode cX11_copies 0 = .ok (.iconst 0, 1) := by decide +kernel
theorem dX11_copies_1 : decode cX11_copies 1 = .ok (.istore_n 2, 1) := by decide +kernel
theorem dX11_copies_2 : decode cX11_copies 2 = .ok (.iload_n 2, 1) := by decide +kernel
theorem dX11_copies_3 : decode cX11_copies 3 = .ok (.bipush 99, 2) := by decide +kernel
theorem dX11_copies_5 : decode cX11_copies 5 = .ok (.if_icmp .ge 15, 3) := by decide +kernel
theorem dX11_copies_8 : decode cX11_copies 8 = .ok (.aload_n 1, 1) := by decide +kernel
theorem dX11_copies_9 : decode cX11_copies 9 = .ok (.iload_n 2, 1) := by decide +kernel
theorem dX11_copies_10 : decode cX11_copies 10 = .ok (.aload_n 0, 1) := by decide +kernel
theorem dX11_copies_11 : decode cX11_copies 11 = .ok (.iload_n 2, 1) := by decide +kernel
theorem dX11_copies_12 : decode cX11_copies 12 = .ok (.iaload, 1) := by decide +kernel
theorem dX11_copies_13 : decode cX11_copies 13 = .ok (.iastore, 1) := by decide +kernel
theorem dX11_copies_14 : decode cX11_copies 14 = .ok (.iinc 2 1, 3) := by decide +kernel
theorem dX11_copies_17 : decode cX11_copies 17 = .ok (.goto (-15), 3) := by decide +kernel
theorem dX11_copies_20 : decode cX11_copies 20 = .ok (.return_, 1) := by decide +kernel
theorem dX11_no_0 : decode cX11_no 0 = .ok (.aload_n 0, 1) := by decide +kernel
theorem dX11_no_1 : decode cX11_no 1 = .ok (.getfield 28, 3) := by decide +kernel
theorem dX11_no_4 : decode cX11_no 4 = .ok (.iload_n 1, 1) := by decide +kernel
theorem dX11_no_5 : decode cX11_no 5 = .ok (.ineg, 1) := by decide +kernel
theorem dX11_no_6 : decode cX11_no 6 = .ok (.dup2, 1) := by decide +kernel
theorem dX11_no_7 : decode cX11_no 7 = .ok (.iaload, 1) := by decide +kernel
theorem dX11_no_8 : decode cX11_no 8 = .ok (.iconst 1, 1) := by decide +kernel
theorem dX11_no_9 : decode cX11_no 9 = .ok (.iadd, 1) := by decide +kernel
theorem dX11_no_10 : decode cX11_no 10 = .ok (.iastore, 1) := by decide +kernel
theorem dX11_no_11 : decode cX11_no 11 = .ok (.iload_n 1, 1) := by decide +kernel
theorem dX11_no_12 : decode cX11_no 12 = .ok (.ireturn, 1) := by decide +kernel
theorem dX11_noWide_0 : decode cX11_noWide 0 = .ok (.ldc2_w 34, 3) := by decide +kernel
theorem dX11_noWide_3 : decode cX11_noWide 3 = .ok (.aload_n 0, 1) := by decide +kernel
theorem dX11_noWide_4 : decode cX11_noWide 4 = .ok (.iload_n 1, 1) := by decide +kernel
theorem dX11_noWide_5 : decode cX11_noWide 5 = .ok (.invokevirtual 36, 3) := by decide +kernel
theorem dX11_noWide_8 : decode cX11_noWide 8 = .ok (.i2l, 1) := by decide +kernel
theorem dX11_noWide_9 : decode cX11_noWide 9 = .ok (.lsub, 1) := by decide +kernel
theorem dX11_noWide_10 : decode cX11_noWide 10 = .ok (.lreturn, 1) := by decide +kernel
theorem dX11_of_0 : decode cX11_of 0 = .ok (.iconst 3, 1) := by decide +kernel
theorem dX11_of_1 : decode cX11_of 1 = .ok (.iconst 4, 1) := by decide +kernel
theorem dX11_of_2 : decode cX11_of 2 = .ok (.iload_n 0, 1) := by decide +kernel
theorem dX11_of_3 : decode cX11_of 3 = .ok (.imul, 1) := by decide +kernel
theorem dX11_of_4 : decode cX11_of 4 = .ok (.iadd, 1) := by decide +kernel
theorem dX11_of_5 : decode cX11_of 5 = .ok (.iload_n 1, 1) := by decide +kernel
theorem dX11_of_6 : decode cX11_of 6 = .ok (.iadd, 1) := by decide +kernel
theorem dX11_of_7 : decode cX11_of 7 = .ok (.ireturn, 1) := by decide +kernel
theorem dX11_by_0 : decode cX11_by 0 = .ok (.bipush 35, 2) := by decide +kernel
theorem dX11_by_2 : decode cX11_by 2 = .ok (.bipush 8, 2) := by decide +kernel
theorem dX11_by_4 : decode cX11_by 4 = .ok (.iload_n 0, 1) := by decide +kernel
theorem dX11_by_5 : decode cX11_by 5 = .ok (.imul, 1) := by decide +kernel
theorem dX11_by_6 : decode cX11_by 6 = .ok (.iadd, 1) := by decide +kernel
theorem dX11_by_7 : decode cX11_by 7 = .ok (.iload_n 1, 1) := by decide +kernel
theorem dX11_by_8 : decode cX11_by 8 = .ok (.iadd, 1) := by decide +kernel
theorem dX11_by_9 : decode cX11_by 9 = .ok (.ireturn, 1) := by decide +kernel
theorem dX11_isOne_0 : decode cX11_isOne 0 = .ok (.iload_n 1, 1) := by decide +kernel
theorem dX11_isOne_1 : decode cX11_isOne 1 = .ok (.iconst 0, 1) := by decide +kernel
theorem dX11_isOne_2 : decode cX11_isOne 2 = .ok (.aload_n 0, 1) := by decide +kernel
theorem dX11_isOne_3 : decode cX11_isOne 3 = .ok (.getfield 9, 3) := by decide +kernel
theorem dX11_isOne_6 : decode cX11_isOne 6 = .ok (.iconst 0, 1) := by decide +kernel
theorem dX11_isOne_7 : decode cX11_isOne 7 = .ok (.iaload, 1) := by decide +kernel
theorem dX11_isOne_8 : decode cX11_isOne 8 = .ok (.iconst 1, 1) := by decide +kernel
theorem dX11_isOne_9 : decode cX11_isOne 9 = .ok (.isub, 1) := by decide +kernel
theorem dX11_isOne_10 : decode cX11_isOne 10 = .ok (.invokestatic 40, 3) := by decide +kernel
theorem dX11_isOne_13 : decode cX11_isOne 13 = .ok (.ireturn, 1) := by decide +kernel
theorem dX11_areTwo_0 : decode cX11_areTwo 0 = .ok (.aload_n 0, 1) := by decide +kernel
theorem dX11_areTwo_1 : decode cX11_areTwo 1 = .ok (.iload_n 1, 1) := by decide +kernel
theorem dX11_areTwo_2 : decode cX11_areTwo 2 = .ok (.invokevirtual 44, 3) := by decide +kernel
theorem dX11_areTwo_5 : decode cX11_areTwo 5 = .ok (.ifCond .eq 20, 3) := by decide +kernel
theorem dX11_areTwo_8 : decode cX11_areTwo 8 = .ok (.aload_n 0, 1) := by decide +kernel
theorem dX11_areTwo_9 : decode cX11_areTwo 9 = .ok (.iload_n 2, 1) := by decide +kernel
theorem dX11_areTwo_10 : decode cX11_areTwo 10 = .ok (.invokevirtual 44, 3) := by decide +kernel
theorem dX11_areTwo_13 : decode cX11_areTwo 13 = .ok (.ifCond .eq 12, 3) := by decide +kernel
theorem dX11_areTwo_16 : decode cX11_areTwo 16 = .ok (.iload_n 1, 1) := by decide +kernel
theorem dX11_areTwo_17 : decode cX11_areTwo 17 = .ok (.iload_n 2, 1) := by decide +kernel
theorem dX11_areTwo_18 : decode cX11_areTwo 18 = .ok (.if_icmp .eq 7, 3) := by decide +kernel
theorem dX11_areTwo_21 : decode cX11_areTwo 21 = .ok (.iconst 1, 1) := by decide +kernel
theorem dX11_areTwo_22 : decode cX11_areTwo 22 = .ok (.goto 4, 3) := by decide +kernel
theorem dX11_areTwo_25 : decode cX11_areTwo 25 = .ok (.iconst 0, 1) := by decide +kernel
theorem dX11_areTwo_26 : decode cX11_areTwo 26 = .ok (.ireturn, 1) := by decide +kernel
theorem dX11_isHere_0 : decode cX11_isHere 0 = .ok (.aload_n 0, 1) := by decide +kernel
theorem dX11_isHere_1 : decode cX11_isHere 1 = .ok (.iload_n 1, 1) := by decide +kernel
theorem dX11_isHere_2 : decode cX11_isHere 2 = .ok (.iconst 2, 1) := by decide +kernel
theorem dX11_isHere_3 : decode cX11_isHere 3 = .ok (.invokestatic 48, 3) := by decide +kernel
theorem dX11_isHere_6 : decode cX11_isHere 6 = .ok (.iaload, 1) := by decide +kernel
theorem dX11_isHere_7 : decode cX11_isHere 7 = .ok (.iconst 1, 1) := by decide +kernel
theorem dX11_isHere_8 : decode cX11_isHere 8 = .ok (.if_icmp .ne 7, 3) := by decide +kernel
theorem dX11_isHere_11 : decode cX11_isHere 11 = .ok (.iconst 1, 1) := by decide +kernel
theorem dX11_isHere_12 : decode cX11_isHere 12 = .ok (.goto 4, 3) := by decide +kernel
theorem dX11_isHere_15 : decode cX11_isHere 15 = .ok (.iconst 0, 1) := by decide +kernel
theorem dX11_isHere_16 : decode cX11_isHere 16 = .ok (.ireturn, 1) := by decide +kernel
theorem dX11_has_0 : decode cX11_has 0 = .ok (.iload_n 0, 1) := by decide +kernel
theorem dX11_has_1 : decode cX11_has 1 = .ok (.iload_n 1, 1) := by decide +kernel
theorem dX11_has_2 : decode cX11_has 2 = .ok (.ishr, 1) := by decide +kernel
theorem dX11_has_3 : decode cX11_has 3 = .ok (.iconst 1, 1) := by decide +kernel
theorem dX11_has_4 : decode cX11_has 4 = .ok (.iand, 1) := by decide +kernel
theorem dX11_has_5 : decode cX11_has 5 = .ok (.iconst 1, 1) := by decide +kernel
theorem dX11_has_6 : decode cX11_has 6 = .ok (.if_icmp .ne 7, 3) := by decide +kernel
theorem dX11_has_9 : decode cX11_has 9 = .ok (.iconst 1, 1) := by decide +kernel
theorem dX11_has_10 : decode cX11_has 10 = .ok (.goto 4, 3) := by decide +kernel
theorem dX11_has_13 : decode cX11_has 13 = .ok (.iconst 0, 1) := by decide +kernel
theorem dX11_has_14 : decode cX11_has 14 = .ok (.ireturn, 1) := by decide +kernel
theorem dX11_bits_0 : decode cX11_bits 0 = .ok (.iconst 0, 1) := by decide +kernel
theorem dX11_bits_1 : decode cX11_bits 1 = .ok (.istore_n 1, 1) := by decide +kernel
theorem dX11_bits_2 : decode cX11_bits 2 = .ok (.iconst 0, 1) := by decide +kernel
theorem dX11_bits_3 : decode cX11_bits 3 = .ok (.istore_n 2, 1) := by decide +kernel
theorem dX11_bits_4 : decode cX11_bits 4 = .ok (.iload_n 2, 1) := by decide +kernel
theorem dX11_bits_5 : decode cX11_bits 5 = .ok (.bipush 8, 2) := by decide +kernel
theorem dX11_bits_7 : decode cX11_bits 7 = .ok (.if_icmp .ge 17, 3) := by decide +kernel
theorem dX11_bits_10 : decode cX11_bits 10 = .ok (.iload_n 1, 1) := by decide +kernel
theorem dX11_bits_11 : decode cX11_bits 11 = .ok (.iload_n 0, 1) := by decide +kernel
theorem dX11_bits_12 : decode cX11_bits 12 = .ok (.iload_n 2, 1) := by decide +kernel
theorem dX11_bits_13 : decode cX11_bits 13 = .ok (.ishr, 1) := by decide +kernel
theorem dX11_bits_14 : decode cX11_bits 14 = .ok (.iconst 1, 1) := by decide +kernel
theorem dX11_bits_15 : decode cX11_bits 15 = .ok (.iand, 1) := by decide +kernel
theorem dX11_bits_16 : decode cX11_bits 16 = .ok (.iadd, 1) := by decide +kernel
theorem dX11_bits_17 : decode cX11_bits 17 = .ok (.istore_n 1, 1) := by decide +kernel
theorem dX11_bits_18 : decode cX11_bits 18 = .ok (.iinc 2 1, 3) := by decide +kernel
theorem dX11_bits_21 : decode cX11_bits 21 = .ok (.goto (-17), 3) := by decide +kernel
theorem dX11_bits_24 : decode cX11_bits 24 = .ok (.iload_n 1, 1) := by decide +kernel
theorem dX11_bits_25 : decode cX11_bits 25 = .ok (.ireturn, 1) := by decide +kernel
theorem dX11_changeBy_0 : decode cX11_changeBy 0 = .ok (.aload_n 0, 1) := by decide +kernel
theorem dX11_changeBy_1 : decode cX11_changeBy 1 = .ok (.iload_n 1, 1) := by decide +kernel
theorem dX11_changeBy_2 : decode cX11_changeBy 2 = .ok (.iconst 1, 1) := by decide +kernel
theorem dX11_changeBy_3 : decode cX11_changeBy 3 = .ok (.invokestatic 48, 3) := by decide +kernel
theorem dX11_changeBy_6 : decode cX11_changeBy 6 = .ok (.iaload, 1) := by decide +kernel
theorem dX11_changeBy_7 : decode cX11_changeBy 7 = .ok (.istore_n 2, 1) := by decide +kernel
theorem dX11_changeBy_8 : decode cX11_changeBy 8 = .ok (.aload_n 0, 1) := by decide +kernel
theorem dX11_changeBy_9 : decode cX11_changeBy 9 = .ok (.iconst 1, 1) := by decide +kernel
theorem dX11_changeBy_10 : decode cX11_changeBy 10 = .ok (.iaload, 1) := by decide +kernel
theorem dX11_changeBy_11 : decode cX11_changeBy 11 = .ok (.istore_n 3, 1) := by decide +kernel
theorem dX11_changeBy_12 : decode cX11_changeBy 12 = .ok (.aload_n 0, 1) := by decide +kernel
theorem dX11_changeBy_13 : decode cX11_changeBy 13 = .ok (.iload_n 1, 1) := by decide +kernel
theorem dX11_changeBy_14 : decode cX11_changeBy 14 = .ok (.iconst 3, 1) := by decide +kernel
theorem dX11_changeBy_15 : decode cX11_changeBy 15 = .ok (.invokestatic 48, 3) := by decide +kernel
theorem dX11_changeBy_18 : decode cX11_changeBy 18 = .ok (.iaload, 1) := by decide +kernel
theorem dX11_changeBy_19 : decode cX11_changeBy 19 = .ok (.bipush 10, 2) := by decide +kernel
theorem dX11_changeBy_21 : decode cX11_changeBy 21 = .ok (.idiv, 1) := by decide +kernel
theorem dX11_changeBy_22 : decode cX11_changeBy 22 = .ok (.ineg, 1) := by decide +kernel
theorem dX11_changeBy_23 : decode cX11_changeBy 23 = .ok (.istore 4, 2) := by decide +kernel
theorem dX11_changeBy_25 : decode cX11_changeBy 25 = .ok (.iload_n 3, 1) := by decide +kernel
theorem dX11_changeBy_26 : decode cX11_changeBy 26 = .ok (.bipush 10, 2) := by decide +kernel
theorem dX11_changeBy_28 : decode cX11_changeBy 28 = .ok (.irem, 1) := by decide +kernel
theorem dX11_changeBy_29 : decode cX11_changeBy 29 = .ok (.bipush 8, 2) := by decide +kernel
theorem dX11_changeBy_31 : decode cX11_changeBy 31 = .ok (.if_icmp .ge 10, 3) := by decide +kernel
theorem dX11_changeBy_34 : decode cX11_changeBy 34 = .ok (.iload_n 3, 1) := by decide +kernel
theorem dX11_changeBy_35 : decode cX11_changeBy 35 = .ok (.bipush 10, 2) := by decide +kernel
theorem dX11_changeBy_37 : decode cX11_changeBy 37 = .ok (.irem, 1) := by decide +kernel
theorem dX11_changeBy_38 : decode cX11_changeBy 38 = .ok (.ifCond .ne 7, 3) := by decide +kernel
theorem dX11_changeBy_41 : decode cX11_changeBy 41 = .ok (.iconst 2, 1) := by decide +kernel
theorem dX11_changeBy_42 : decode cX11_changeBy 42 = .ok (.goto 4, 3) := by decide +kernel
theorem dX11_changeBy_45 : decode cX11_changeBy 45 = .ok (.iconst (-1), 1) := by decide +kernel
theorem dX11_changeBy_46 : decode cX11_changeBy 46 = .ok (.istore 5, 2) := by decide +kernel
theorem dX11_changeBy_48 : decode cX11_changeBy 48 = .ok (.aload_n 0, 1) := by decide +kernel
theorem dX11_changeBy_49 : decode cX11_changeBy 49 = .ok (.iload_n 1, 1) := by decide +kernel
theorem dX11_changeBy_50 : decode cX11_changeBy 50 = .ok (.iconst 0, 1) := by decide +kernel
theorem dX11_changeBy_51 : decode cX11_changeBy 51 = .ok (.invokestatic 48, 3) := by decide +kernel
theorem dX11_changeBy_54 : decode cX11_changeBy 54 = .ok (.iaload, 1) := by decide +kernel
theorem dX11_changeBy_55 : decode cX11_changeBy 55 = .ok (.tableswitch 63 1 5 #[33, 36, 39, 44, 46], 33) := by decide +kernel
theorem dX11_changeBy_88 : decode cX11_changeBy 88 = .ok (.iload 4, 2) := by decide +kernel
theorem dX11_changeBy_90 : decode cX11_changeBy 90 = .ok (.ireturn, 1) := by decide +kernel
theorem dX11_changeBy_91 : decode cX11_changeBy 91 = .ok (.iload 5, 2) := by decide +kernel
theorem dX11_changeBy_93 : decode cX11_changeBy 93 = .ok (.ireturn, 1) := by decide +kernel
theorem dX11_changeBy_94 : decode cX11_changeBy 94 = .ok (.iload 4, 2) := by decide +kernel
theorem dX11_changeBy_96 : decode cX11_changeBy 96 = .ok (.iload_n 2, 1) := by decide +kernel
theorem dX11_changeBy_97 : decode cX11_changeBy 97 = .ok (.iadd, 1) := by decide +kernel
theorem dX11_changeBy_98 : decode cX11_changeBy 98 = .ok (.ireturn, 1) := by decide +kernel
theorem dX11_changeBy_99 : decode cX11_changeBy 99 = .ok (.iconst 0, 1) := by decide +kernel
theorem dX11_changeBy_100 : decode cX11_changeBy 100 = .ok (.ireturn, 1) := by decide +kernel
theorem dX11_changeBy_101 : decode cX11_changeBy 101 = .ok (.iload_n 3, 1) := by decide +kernel
theorem dX11_changeBy_102 : decode cX11_changeBy 102 = .ok (.iconst 2, 1) := by decide +kernel
theorem dX11_changeBy_103 : decode cX11_changeBy 103 = .ok (.irem, 1) := by decide +kernel
theorem dX11_changeBy_104 : decode cX11_changeBy 104 = .ok (.iconst 1, 1) := by decide +kernel
theorem dX11_changeBy_105 : decode cX11_changeBy 105 = .ok (.if_icmp .ne 10, 3) := by decide +kernel
theorem dX11_changeBy_108 : decode cX11_changeBy 108 = .ok (.iload 5, 2) := by decide +kernel
theorem dX11_changeBy_110 : decode cX11_changeBy 110 = .ok (.iconst 2, 1) := by decide +kernel
theorem dX11_changeBy_111 : decode cX11_changeBy 111 = .ok (.iadd, 1) := by decide +kernel
theorem dX11_changeBy_112 : decode cX11_changeBy 112 = .ok (.goto 5, 3) := by decide +kernel
theorem dX11_changeBy_115 : decode cX11_changeBy 115 = .ok (.iload 5, 2) := by decide +kernel
theorem dX11_changeBy_117 : decode cX11_changeBy 117 = .ok (.ireturn, 1) := by decide +kernel
theorem dX11_changeBy_118 : decode cX11_changeBy 118 = .ok (.iconst (-1), 1) := by decide +kernel
theorem dX11_changeBy_119 : decode cX11_changeBy 119 = .ok (.ireturn, 1) := by decide +kernel
theorem dX11_mayBeNamed_0 : decode cX11_mayBeNamed 0 = .ok (.aload_n 0, 1) := by decide +kernel
theorem dX11_mayBeNamed_1 : decode cX11_mayBeNamed 1 = .ok (.iload_n 1, 1) := by decide +kernel
theorem dX11_mayBeNamed_2 : decode cX11_mayBeNamed 2 = .ok (.iconst 0, 1) := by decide +kernel
theorem dX11_mayBeNamed_3 : decode cX11_mayBeNamed 3 = .ok (.invokestatic 48, 3) := by decide +kernel
theorem dX11_mayBeNamed_6 : decode cX11_mayBeNamed 6 = .ok (.iaload, 1) := by decide +kernel
theorem dX11_mayBeNamed_7 : decode cX11_mayBeNamed 7 = .ok (.istore_n 2, 1) := by decide +kernel
theorem dX11_mayBeNamed_8 : decode cX11_mayBeNamed 8 = .ok (.iload_n 2, 1) := by decide +kernel
theorem dX11_mayBeNamed_9 : decode cX11_mayBeNamed 9 = .ok (.iconst 4, 1) := by decide +kernel
theorem dX11_mayBeNamed_10 : decode cX11_mayBeNamed 10 = .ok (.if_icmp .eq 23, 3) := by decide +kernel
theorem dX11_mayBeNamed_13 : decode cX11_mayBeNamed 13 = .ok (.iload_n 2, 1) := by decide +kernel
theorem dX11_mayBeNamed_14 : decode cX11_mayBeNamed 14 = .ok (.iconst 5, 1) := by decide +kernel
theorem dX11_mayBeNamed_15 : decode cX11_mayBeNamed 15 = .ok (.if_icmp .ne 14, 3) := by decide +kernel
theorem dX11_mayBeNamed_18 : decode cX11_mayBeNamed 18 = .ok (.aload_n 0, 1) := by decide +kernel
theorem dX11_mayBeNamed_19 : decode cX11_mayBeNamed 19 = .ok (.iload_n 1, 1) := by decide +kernel
theorem dX11_mayBeNamed_20 : decode cX11_mayBeNamed 20 = .ok (.iconst 1, 1) := by decide +kernel
theorem dX11_mayBeNamed_21 : decode cX11_mayBeNamed 21 = .ok (.invokestatic 48, 3) := by decide +kernel
theorem dX11_mayBeNamed_24 : decode cX11_mayBeNamed 24 = .ok (.iaload, 1) := by decide +kernel
theorem dX11_mayBeNamed_25 : decode cX11_mayBeNamed 25 = .ok (.iconst 5, 1) := by decide +kernel
theorem dX11_mayBeNamed_26 : decode cX11_mayBeNamed 26 = .ok (.if_icmp .ge 7, 3) := by decide +kernel
theorem dX11_mayBeNamed_29 : decode cX11_mayBeNamed 29 = .ok (.iconst 1, 1) := by decide +kernel
theorem dX11_mayBeNamed_30 : decode cX11_mayBeNamed 30 = .ok (.goto 4, 3) := by decide +kernel
theorem dX11_mayBeNamed_33 : decode cX11_mayBeNamed 33 = .ok (.iconst 0, 1) := by decide +kernel
theorem dX11_mayBeNamed_34 : decode cX11_mayBeNamed 34 = .ok (.ireturn, 1) := by decide +kernel
theorem dX11_knownIn_0 : decode cX11_knownIn 0 = .ok (.iconst 0, 1) := by decide +kernel
theorem dX11_knownIn_1 : decode cX11_knownIn 1 = .ok (.istore_n 2, 1) := by decide +kernel
theorem dX11_knownIn_2 : decode cX11_knownIn 2 = .ok (.iconst 0, 1) := by decide +kernel
theorem dX11_knownIn_3 : decode cX11_knownIn 3 = .ok (.istore_n 3, 1) := by decide +kernel
theorem dX11_knownIn_4 : decode cX11_knownIn 4 = .ok (.iload_n 3, 1) := by decide +kernel
theorem dX11_knownIn_5 : decode cX11_knownIn 5 = .ok (.aload_n 0, 1) := by decide +kernel
theorem dX11_knownIn_6 : decode cX11_knownIn 6 = .ok (.iconst 0, 1) := by decide +kernel
theorem dX11_knownIn_7 : decode cX11_knownIn 7 = .ok (.iaload, 1) := by decide +kernel
theorem dX11_knownIn_8 : decode cX11_knownIn 8 = .ok (.if_icmp .ge 36, 3) := by decide +kernel
theorem dX11_knownIn_11 : decode cX11_knownIn 11 = .ok (.iload_n 2, 1) := by decide +kernel
theorem dX11_knownIn_12 : decode cX11_knownIn 12 = .ok (.iload_n 3, 1) := by decide +kernel
theorem dX11_knownIn_13 : decode cX11_knownIn 13 = .ok (.iload_n 1, 1) := by decide +kernel
theorem dX11_knownIn_14 : decode cX11_knownIn 14 = .ok (.if_icmp .eq 21, 3) := by decide +kernel
theorem dX11_knownIn_17 : decode cX11_knownIn 17 = .ok (.aload_n 0, 1) := by decide +kernel
theorem dX11_knownIn_18 : decode cX11_knownIn 18 = .ok (.iload_n 3, 1) := by decide +kernel
theorem dX11_knownIn_19 : decode cX11_knownIn 19 = .ok (.invokestatic 52, 3) := by decide +kernel
theorem dX11_knownIn_22 : decode cX11_knownIn 22 = .ok (.ifCond .eq 13, 3) := by decide +kernel
theorem dX11_knownIn_25 : decode cX11_knownIn 25 = .ok (.aload_n 0, 1) := by decide +kernel
theorem dX11_knownIn_26 : decode cX11_knownIn 26 = .ok (.iload_n 3, 1) := by decide +kernel
theorem dX11_knownIn_27 : decode cX11_knownIn 27 = .ok (.iload_n 1, 1) := by decide +kernel
theorem dX11_knownIn_28 : decode cX11_knownIn 28 = .ok (.invokestatic 56, 3) := by decide +kernel
theorem dX11_knownIn_31 : decode cX11_knownIn 31 = .ok (.iaload, 1) := by decide +kernel
theorem dX11_knownIn_32 : decode cX11_knownIn 32 = .ok (.goto 4, 3) := by decide +kernel
theorem dX11_knownIn_35 : decode cX11_knownIn 35 = .ok (.iconst 0, 1) := by decide +kernel
theorem dX11_knownIn_36 : decode cX11_knownIn 36 = .ok (.iadd, 1) := by decide +kernel
theorem dX11_knownIn_37 : decode cX11_knownIn 37 = .ok (.istore_n 2, 1) := by decide +kernel
theorem dX11_knownIn_38 : decode cX11_knownIn 38 = .ok (.iinc 3 1, 3) := by decide +kernel
theorem dX11_knownIn_41 : decode cX11_knownIn 41 = .ok (.goto (-37), 3) := by decide +kernel
theorem dX11_knownIn_44 : decode cX11_knownIn 44 = .ok (.iload_n 2, 1) := by decide +kernel
theorem dX11_knownIn_45 : decode cX11_knownIn 45 = .ok (.ireturn, 1) := by decide +kernel
theorem dX11_leastIn_0 : decode cX11_leastIn 0 = .ok (.bipush (-9), 2) := by decide +kernel
theorem dX11_leastIn_2 : decode cX11_leastIn 2 = .ok (.istore_n 1, 1) := by decide +kernel
theorem dX11_leastIn_3 : decode cX11_leastIn 3 = .ok (.iconst 0, 1) := by decide +kernel
theorem dX11_leastIn_4 : decode cX11_leastIn 4 = .ok (.istore_n 2, 1) := by decide +kernel
theorem dX11_leastIn_5 : decode cX11_leastIn 5 = .ok (.iload_n 2, 1) := by decide +kernel
theorem dX11_leastIn_6 : decode cX11_leastIn 6 = .ok (.aload_n 0, 1) := by decide +kernel
theorem dX11_leastIn_7 : decode cX11_leastIn 7 = .ok (.iconst 0, 1) := by decide +kernel
theorem dX11_leastIn_8 : decode cX11_leastIn 8 = .ok (.iaload, 1) := by decide +kernel
theorem dX11_leastIn_9 : decode cX11_leastIn 9 = .ok (.if_icmp .ge 44, 3) := by decide +kernel
theorem dX11_leastIn_12 : decode cX11_leastIn 12 = .ok (.aload_n 0, 1) := by decide +kernel
theorem dX11_leastIn_13 : decode cX11_leastIn 13 = .ok (.iload_n 2, 1) := by decide +kernel
theorem dX11_leastIn_14 : decode cX11_leastIn 14 = .ok (.invokestatic 52, 3) := by decide +kernel
theorem dX11_leastIn_17 : decode cX11_leastIn 17 = .ok (.ifCond .eq 30, 3) := by decide +kernel
theorem dX11_leastIn_20 : decode cX11_leastIn 20 = .ok (.aload_n 0, 1) := by decide +kernel
theorem dX11_leastIn_21 : decode cX11_leastIn 21 = .ok (.iload_n 2, 1) := by decide +kernel
theorem dX11_leastIn_22 : decode cX11_leastIn 22 = .ok (.invokestatic 59, 3) := by decide +kernel
theorem dX11_leastIn_25 : decode cX11_leastIn 25 = .ok (.ifCond .eq 22, 3) := by decide +kernel
theorem dX11_leastIn_28 : decode cX11_leastIn 28 = .ok (.iload_n 1, 1) := by decide +kernel
theorem dX11_leastIn_29 : decode cX11_leastIn 29 = .ok (.ifCond .lt 16, 3) := by decide +kernel
theorem dX11_leastIn_32 : decode cX11_leastIn 32 = .ok (.aload_n 0, 1) := by decide +kernel
theorem dX11_leastIn_33 : decode cX11_leastIn 33 = .ok (.iload_n 2, 1) := by decide +kernel
theorem dX11_leastIn_34 : decode cX11_leastIn 34 = .ok (.invokestatic 62, 3) := by decide +kernel
theorem dX11_leastIn_37 : decode cX11_leastIn 37 = .ok (.aload_n 0, 1) := by decide +kernel
theorem dX11_leastIn_38 : decode cX11_leastIn 38 = .ok (.iload_n 1, 1) := by decide +kernel
theorem dX11_leastIn_39 : decode cX11_leastIn 39 = .ok (.invokestatic 62, 3) := by decide +kernel
theorem dX11_leastIn_42 : decode cX11_leastIn 42 = .ok (.if_icmp .ge 5, 3) := by decide +kernel
theorem dX11_leastIn_45 : decode cX11_leastIn 45 = .ok (.iload_n 2, 1) := by decide +kernel
theorem dX11_leastIn_46 : decode cX11_leastIn 46 = .ok (.istore_n 1, 1) := by decide +kernel
theorem dX11_leastIn_47 : decode cX11_leastIn 47 = .ok (.iinc 2 1, 3) := by decide +kernel
theorem dX11_leastIn_50 : decode cX11_leastIn 50 = .ok (.goto (-45), 3) := by decide +kernel
theorem dX11_leastIn_53 : decode cX11_leastIn 53 = .ok (.iload_n 1, 1) := by decide +kernel
theorem dX11_leastIn_54 : decode cX11_leastIn 54 = .ok (.ireturn, 1) := by decide +kernel
theorem dX11_forgets_0 : decode cX11_forgets 0 = .ok (.aload_n 0, 1) := by decide +kernel
theorem dX11_forgets_1 : decode cX11_forgets 1 = .ok (.iload_n 1, 1) := by decide +kernel
theorem dX11_forgets_2 : decode cX11_forgets 2 = .ok (.iconst 2, 1) := by decide +kernel
theorem dX11_forgets_3 : decode cX11_forgets 3 = .ok (.invokestatic 48, 3) := by decide +kernel
theorem dX11_forgets_6 : decode cX11_forgets 6 = .ok (.iconst 0, 1) := by decide +kernel
theorem dX11_forgets_7 : decode cX11_forgets 7 = .ok (.iastore, 1) := by decide +kernel
theorem dX11_forgets_8 : decode cX11_forgets 8 = .ok (.aload_n 0, 1) := by decide +kernel
theorem dX11_forgets_9 : decode cX11_forgets 9 = .ok (.iload_n 1, 1) := by decide +kernel
theorem dX11_forgets_10 : decode cX11_forgets 10 = .ok (.iconst 3, 1) := by decide +kernel
theorem dX11_forgets_11 : decode cX11_forgets 11 = .ok (.invokestatic 48, 3) := by decide +kernel
theorem dX11_forgets_14 : decode cX11_forgets 14 = .ok (.iconst 0, 1) := by decide +kernel
theorem dX11_forgets_15 : decode cX11_forgets 15 = .ok (.iastore, 1) := by decide +kernel
theorem dX11_forgets_16 : decode cX11_forgets 16 = .ok (.iconst 0, 1) := by decide +kernel
theorem dX11_forgets_17 : decode cX11_forgets 17 = .ok (.istore_n 2, 1) := by decide +kernel
theorem dX11_forgets_18 : decode cX11_forgets 18 = .ok (.iload_n 2, 1) := by decide +kernel
theorem dX11_forgets_19 : decode cX11_forgets 19 = .ok (.aload_n 0, 1) := by decide +kernel
theorem dX11_forgets_20 : decode cX11_forgets 20 = .ok (.iconst 0, 1) := by decide +kernel
theorem dX11_forgets_21 : decode cX11_forgets 21 = .ok (.iaload, 1) := by decide +kernel
theorem dX11_forgets_22 : decode cX11_forgets 22 = .ok (.if_icmp .ge 25, 3) := by decide +kernel
theorem dX11_forgets_25 : decode cX11_forgets 25 = .ok (.aload_n 0, 1) := by decide +kernel
theorem dX11_forgets_26 : decode cX11_forgets 26 = .ok (.iload_n 2, 1) := by decide +kernel
theorem dX11_forgets_27 : decode cX11_forgets 27 = .ok (.invokestatic 52, 3) := by decide +kernel
theorem dX11_forgets_30 : decode cX11_forgets 30 = .ok (.ifCond .eq 11, 3) := by decide +kernel
theorem dX11_forgets_33 : decode cX11_forgets 33 = .ok (.aload_n 0, 1) := by decide +kernel
theorem dX11_forgets_34 : decode cX11_forgets 34 = .ok (.iload_n 2, 1) := by decide +kernel
theorem dX11_forgets_35 : decode cX11_forgets 35 = .ok (.iload_n 1, 1) := by decide +kernel
theorem dX11_forgets_36 : decode cX11_forgets 36 = .ok (.invokestatic 56, 3) := by decide +kernel
theorem dX11_forgets_39 : decode cX11_forgets 39 = .ok (.iconst 0, 1) := by decide +kernel
theorem dX11_forgets_40 : decode cX11_forgets 40 = .ok (.iastore, 1) := by decide +kernel
theorem dX11_forgets_41 : decode cX11_forgets 41 = .ok (.iinc 2 1, 3) := by decide +kernel
theorem dX11_forgets_44 : decode cX11_forgets 44 = .ok (.goto (-26), 3) := by decide +kernel
theorem dX11_forgets_47 : decode cX11_forgets 47 = .ok (.return_, 1) := by decide +kernel
theorem dX11_week_0 : decode cX11_week 0 = .ok (.aload_n 0, 1) := by decide +kernel
theorem dX11_week_1 : decode cX11_week 1 = .ok (.iconst 1, 1) := by decide +kernel
theorem dX11_week_2 : decode cX11_week 2 = .ok (.dup2, 1) := by decide +kernel
theorem dX11_week_3 : decode cX11_week 3 = .ok (.iaload, 1) := by decide +kernel
theorem dX11_week_4 : decode cX11_week 4 = .ok (.iconst 1, 1) := by decide +kernel
theorem dX11_week_5 : decode cX11_week 5 = .ok (.iadd, 1) := by decide +kernel
theorem dX11_week_6 : decode cX11_week 6 = .ok (.iastore, 1) := by decide +kernel
theorem dX11_week_7 : decode cX11_week 7 = .ok (.iconst 0, 1) := by decide +kernel
theorem dX11_week_8 : decode cX11_week 8 = .ok (.istore_n 1, 1) := by decide +kernel
theorem dX11_week_9 : decode cX11_week 9 = .ok (.iload_n 1, 1) := by decide +kernel
theorem dX11_week_10 : decode cX11_week 10 = .ok (.aload_n 0, 1) := by decide +kernel
theorem dX11_week_11 : decode cX11_week 11 = .ok (.iconst 0, 1) := by decide +kernel
theorem dX11_week_12 : decode cX11_week 12 = .ok (.iaload, 1) := by decide +kernel
theorem dX11_week_13 : decode cX11_week 13 = .ok (.if_icmp .ge 70, 3) := by decide +kernel
theorem dX11_week_16 : decode cX11_week 16 = .ok (.aload_n 0, 1) := by decide +kernel
theorem dX11_week_17 : decode cX11_week 17 = .ok (.iload_n 1, 1) := by decide +kernel
theorem dX11_week_18 : decode cX11_week 18 = .ok (.invokestatic 66, 3) := by decide +kernel
theorem dX11_week_21 : decode cX11_week 21 = .ok (.istore_n 2, 1) := by decide +kernel
theorem dX11_week_22 : decode cX11_week 22 = .ok (.iconst 0, 1) := by decide +kernel
theorem dX11_week_23 : decode cX11_week 23 = .ok (.istore_n 3, 1) := by decide +kernel
theorem dX11_week_24 : decode cX11_week 24 = .ok (.iload_n 3, 1) := by decide +kernel
theorem dX11_week_25 : decode cX11_week 25 = .ok (.aload_n 0, 1) := by decide +kernel
theorem dX11_week_26 : decode cX11_week 26 = .ok (.iconst 0, 1) := by decide +kernel
theorem dX11_week_27 : decode cX11_week 27 = .ok (.iaload, 1) := by decide +kernel
theorem dX11_week_28 : decode cX11_week 28 = .ok (.if_icmp .ge 49, 3) := by decide +kernel
theorem dX11_week_31 : decode cX11_week 31 = .ok (.iload_n 3, 1) := by decide +kernel
theorem dX11_week_32 : decode cX11_week 32 = .ok (.iload_n 1, 1) := by decide +kernel
theorem dX11_week_33 : decode cX11_week 33 = .ok (.if_icmp .eq 38, 3) := by decide +kernel
theorem dX11_week_36 : decode cX11_week 36 = .ok (.aload_n 0, 1) := by decide +kernel
theorem dX11_week_37 : decode cX11_week 37 = .ok (.iload_n 1, 1) := by decide +kernel
theorem dX11_week_38 : decode cX11_week 38 = .ok (.invokestatic 52, 3) := by decide +kernel
theorem dX11_week_41 : decode cX11_week 41 = .ok (.ifCond .eq 30, 3) := by decide +kernel
theorem dX11_week_44 : decode cX11_week 44 = .ok (.aload_n 0, 1) := by decide +kernel
theorem dX11_week_45 : decode cX11_week 45 = .ok (.iload_n 3, 1) := by decide +kernel
theorem dX11_week_46 : decode cX11_week 46 = .ok (.invokestatic 52, 3) := by decide +kernel
theorem dX11_week_49 : decode cX11_week 49 = .ok (.ifCond .eq 22, 3) := by decide +kernel
theorem dX11_week_52 : decode cX11_week 52 = .ok (.aload_n 0, 1) := by decide +kernel
theorem dX11_week_53 : decode cX11_week 53 = .ok (.iload_n 3, 1) := by decide +kernel
theorem dX11_week_54 : decode cX11_week 54 = .ok (.iload_n 1, 1) := by decide +kernel
theorem dX11_week_55 : decode cX11_week 55 = .ok (.invokestatic 56, 3) := by decide +kernel
theorem dX11_week_58 : decode cX11_week 58 = .ok (.aload_n 0, 1) := by decide +kernel
theorem dX11_week_59 : decode cX11_week 59 = .ok (.iload_n 3, 1) := by decide +kernel
theorem dX11_week_60 : decode cX11_week 60 = .ok (.iload_n 1, 1) := by decide +kernel
theorem dX11_week_61 : decode cX11_week 61 = .ok (.invokestatic 56, 3) := by decide +kernel
theorem dX11_week_64 : decode cX11_week 64 = .ok (.iaload, 1) := by decide +kernel
theorem dX11_week_65 : decode cX11_week 65 = .ok (.iload_n 2, 1) := by decide +kernel
theorem dX11_week_66 : decode cX11_week 66 = .ok (.iadd, 1) := by decide +kernel
theorem dX11_week_67 : decode cX11_week 67 = .ok (.invokestatic 69, 3) := by decide +kernel
theorem dX11_week_70 : decode cX11_week 70 = .ok (.iastore, 1) := by decide +kernel
theorem dX11_week_71 : decode cX11_week 71 = .ok (.iinc 3 1, 3) := by decide +kernel
theorem dX11_week_74 : decode cX11_week 74 = .ok (.goto (-50), 3) := by decide +kernel
theorem dX11_week_77 : decode cX11_week 77 = .ok (.iinc 1 1, 3) := by decide +kernel
theorem dX11_week_80 : decode cX11_week 80 = .ok (.goto (-71), 3) := by decide +kernel
theorem dX11_week_83 : decode cX11_week 83 = .ok (.iconst 0, 1) := by decide +kernel
theorem dX11_week_84 : decode cX11_week 84 = .ok (.istore_n 1, 1) := by decide +kernel
theorem dX11_week_85 : decode cX11_week 85 = .ok (.iload_n 1, 1) := by decide +kernel
theorem dX11_week_86 : decode cX11_week 86 = .ok (.aload_n 0, 1) := by decide +kernel
theorem dX11_week_87 : decode cX11_week 87 = .ok (.iconst 2, 1) := by decide +kernel
theorem dX11_week_88 : decode cX11_week 88 = .ok (.iaload, 1) := by decide +kernel
theorem dX11_week_89 : decode cX11_week 89 = .ok (.if_icmp .ge 32, 3) := by decide +kernel
theorem dX11_week_92 : decode cX11_week 92 = .ok (.aload_n 0, 1) := by decide +kernel
theorem dX11_week_93 : decode cX11_week 93 = .ok (.iconst 1, 1) := by decide +kernel
theorem dX11_week_94 : decode cX11_week 94 = .ok (.iaload, 1) := by decide +kernel
theorem dX11_week_95 : decode cX11_week 95 = .ok (.bipush 10, 2) := by decide +kernel
theorem dX11_week_97 : decode cX11_week 97 = .ok (.irem, 1) := by decide +kernel
theorem dX11_week_98 : decode cX11_week 98 = .ok (.ifCond .ne 23, 3) := by decide +kernel
theorem dX11_week_101 : decode cX11_week 101 = .ok (.aload_n 0, 1) := by decide +kernel
theorem dX11_week_102 : decode cX11_week 102 = .ok (.invokestatic 72, 3) := by decide +kernel
theorem dX11_week_105 : decode cX11_week 105 = .ok (.istore_n 2, 1) := by decide +kernel
theorem dX11_week_106 : decode cX11_week 106 = .ok (.iload_n 2, 1) := by decide +kernel
theorem dX11_week_107 : decode cX11_week 107 = .ok (.ifCond .lt 8, 3) := by decide +kernel
theorem dX11_week_110 : decode cX11_week 110 = .ok (.aload_n 0, 1) := by decide +kernel
theorem dX11_week_111 : decode cX11_week 111 = .ok (.iload_n 2, 1) := by decide +kernel
theorem dX11_week_112 : decode cX11_week 112 = .ok (.invokestatic 76, 3) := by decide +kernel
theorem dX11_week_115 : decode cX11_week 115 = .ok (.iinc 1 1, 3) := by decide +kernel
theorem dX11_week_118 : decode cX11_week 118 = .ok (.goto (-33), 3) := by decide +kernel
theorem dX11_week_121 : decode cX11_week 121 = .ok (.return_, 1) := by decide +kernel
theorem dX11_weeksOn_0 : decode cX11_weeksOn 0 = .ok (.iconst 0, 1) := by decide +kernel
theorem dX11_weeksOn_1 : decode cX11_weeksOn 1 = .ok (.istore_n 2, 1) := by decide +kernel
theorem dX11_weeksOn_2 : decode cX11_weeksOn 2 = .ok (.iload_n 2, 1) := by decide +kernel
theorem dX11_weeksOn_3 : decode cX11_weeksOn 3 = .ok (.iload_n 1, 1) := by decide +kernel
theorem dX11_weeksOn_4 : decode cX11_weeksOn 4 = .ok (.if_icmp .ge 13, 3) := by decide +kernel
theorem dX11_weeksOn_7 : decode cX11_weeksOn 7 = .ok (.aload_n 0, 1) := by decide +kernel
theorem dX11_weeksOn_8 : decode cX11_weeksOn 8 = .ok (.invokestatic 80, 3) := by decide +kernel
theorem dX11_weeksOn_11 : decode cX11_weeksOn 11 = .ok (.iinc 2 1, 3) := by decide +kernel
theorem dX11_weeksOn_14 : decode cX11_weeksOn 14 = .ok (.goto (-12), 3) := by decide +kernel
theorem dX11_weeksOn_17 : decode cX11_weeksOn 17 = .ok (.return_, 1) := by decide +kernel
theorem dX11_hereIn_0 : decode cX11_hereIn 0 = .ok (.iconst 0, 1) := by decide +kernel
theorem dX11_hereIn_1 : decode cX11_hereIn 1 = .ok (.istore_n 1, 1) := by decide +kernel
theorem dX11_hereIn_2 : decode cX11_hereIn 2 = .ok (.iconst 0, 1) := by decide +kernel
theorem dX11_hereIn_3 : decode cX11_hereIn 3 = .ok (.istore_n 2, 1) := by decide +kernel
theorem dX11_hereIn_4 : decode cX11_hereIn 4 = .ok (.iload_n 2, 1) := by decide +kernel
theorem dX11_hereIn_5 : decode cX11_hereIn 5 = .ok (.aload_n 0, 1) := by decide +kernel
theorem dX11_hereIn_6 : decode cX11_hereIn 6 = .ok (.iconst 0, 1) := by decide +kernel
theorem dX11_hereIn_7 : decode cX11_hereIn 7 = .ok (.iaload, 1) := by decide +kernel
theorem dX11_hereIn_8 : decode cX11_hereIn 8 = .ok (.if_icmp .ge 21, 3) := by decide +kernel
theorem dX11_hereIn_11 : decode cX11_hereIn 11 = .ok (.iload_n 1, 1) := by decide +kernel
theorem dX11_hereIn_12 : decode cX11_hereIn 12 = .ok (.aload_n 0, 1) := by decide +kernel
theorem dX11_hereIn_13 : decode cX11_hereIn 13 = .ok (.iload_n 2, 1) := by decide +kernel
theorem dX11_hereIn_14 : decode cX11_hereIn 14 = .ok (.iconst 2, 1) := by decide +kernel
theorem dX11_hereIn_15 : decode cX11_hereIn 15 = .ok (.invokestatic 48, 3) := by decide +kernel
theorem dX11_hereIn_18 : decode cX11_hereIn 18 = .ok (.iaload, 1) := by decide +kernel
theorem dX11_hereIn_19 : decode cX11_hereIn 19 = .ok (.iload_n 2, 1) := by decide +kernel
theorem dX11_hereIn_20 : decode cX11_hereIn 20 = .ok (.ishl, 1) := by decide +kernel
theorem dX11_hereIn_21 : decode cX11_hereIn 21 = .ok (.ior, 1) := by decide +kernel
theorem dX11_hereIn_22 : decode cX11_hereIn 22 = .ok (.istore_n 1, 1) := by decide +kernel
theorem dX11_hereIn_23 : decode cX11_hereIn 23 = .ok (.iinc 2 1, 3) := by decide +kernel
theorem dX11_hereIn_26 : decode cX11_hereIn 26 = .ok (.goto (-22), 3) := by decide +kernel
theorem dX11_hereIn_29 : decode cX11_hereIn 29 = .ok (.iload_n 1, 1) := by decide +kernel
theorem dX11_hereIn_30 : decode cX11_hereIn 30 = .ok (.ireturn, 1) := by decide +kernel
theorem dX11_speaksIn_0 : decode cX11_speaksIn 0 = .ok (.aload_n 0, 1) := by decide +kernel
theorem dX11_speaksIn_1 : decode cX11_speaksIn 1 = .ok (.iload_n 1, 1) := by decide +kernel
theorem dX11_speaksIn_2 : decode cX11_speaksIn 2 = .ok (.iload_n 2, 1) := by decide +kernel
theorem dX11_speaksIn_3 : decode cX11_speaksIn 3 = .ok (.invokestatic 56, 3) := by decide +kernel
theorem dX11_speaksIn_6 : decode cX11_speaksIn 6 = .ok (.aload_n 0, 1) := by decide +kernel
theorem dX11_speaksIn_7 : decode cX11_speaksIn 7 = .ok (.iload_n 1, 1) := by decide +kernel
theorem dX11_speaksIn_8 : decode cX11_speaksIn 8 = .ok (.iload_n 2, 1) := by decide +kernel
theorem dX11_speaksIn_9 : decode cX11_speaksIn 9 = .ok (.invokestatic 56, 3) := by decide +kernel
theorem dX11_speaksIn_12 : decode cX11_speaksIn 12 = .ok (.iaload, 1) := by decide +kernel
theorem dX11_speaksIn_13 : decode cX11_speaksIn 13 = .ok (.bipush 10, 2) := by decide +kernel
theorem dX11_speaksIn_15 : decode cX11_speaksIn 15 = .ok (.iadd, 1) := by decide +kernel
theorem dX11_speaksIn_16 : decode cX11_speaksIn 16 = .ok (.invokestatic 69, 3) := by decide +kernel
theorem dX11_speaksIn_19 : decode cX11_speaksIn 19 = .ok (.iastore, 1) := by decide +kernel
theorem dX11_speaksIn_20 : decode cX11_speaksIn 20 = .ok (.aload_n 0, 1) := by decide +kernel
