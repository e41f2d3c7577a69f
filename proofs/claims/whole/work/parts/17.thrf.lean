theorem dX9_kind_0 : decode cX9_kind 0 = .ok (.aload_n 0, 1) := by decide +kernel
theorem dX9_kind_1 : decode cX9_kind 1 = .ok (.getfield 23, 3) := by decide +kernel
theorem dX9_kind_4 : decode cX9_kind 4 = .ok (.iload_n 1, 1) := by decide +kernel
theorem dX9_kind_5 : decode cX9_kind 5 = .ok (.invokevirtual 113, 3) := by decide +kernel
theorem dX9_kind_8 : decode cX9_kind 8 = .ok (.ifCond .eq 12, 3) := by decide +kernel
theorem dX9_kind_11 : decode cX9_kind 11 = .ok (.iload_n 2, 1) := by decide +kernel
theorem dX9_kind_12 : decode cX9_kind 12 = .ok (.ifCond .lt 8, 3) := by decide +kernel
theorem dX9_kind_15 : decode cX9_kind 15 = .ok (.iload_n 2, 1) := by decide +kernel
theorem dX9_kind_16 : decode cX9_kind 16 = .ok (.iconst 3, 1) := by decide +kernel
theorem dX9_kind_17 : decode cX9_kind 17 = .ok (.if_icmp .le 11, 3) := by decide +kernel
theorem dX9_kind_20 : decode cX9_kind 20 = .ok (.new 117, 3) := by decide +kernel
theorem dX9_kind_23 : decode cX9_kind 23 = .ok (.dup, 1) := by decide +kernel
theorem dX9_kind_24 : decode cX9_kind 24 = .ok (.invokespecial 119, 3) := by decide +kernel
theorem dX9_kind_27 : decode cX9_kind 27 = .ok (.athrow, 1) := by decide +kernel
theorem dX9_kind_28 : decode cX9_kind 28 = .ok (.iload_n 2, 1) := by decide +kernel
theorem dX9_kind_29 : decode cX9_kind 29 = .ok (.ifCond .ne 15, 3) := by decide +kernel
theorem dX9_kind_32 : decode cX9_kind 32 = .ok (.aload_n 0, 1) := by decide +kernel
theorem dX9_kind_33 : decode cX9_kind 33 = .ok (.getfield 23, 3) := by decide +kernel
theorem dX9_kind_36 : decode cX9_kind 36 = .ok (.getfield 120, 3) := by decide +kernel
theorem dX9_kind_39 : decode cX9_kind 39 = .ok (.iload_n 1, 1) := by decide +kernel
theorem dX9_kind_40 : decode cX9_kind 40 = .ok (.invokestatic 123, 3) := by decide +kernel
theorem dX9_kind_43 : decode cX9_kind 43 = .ok (.ireturn, 1) := by decide +kernel
theorem dX9_kind_44 : decode cX9_kind 44 = .ok (.iload_n 2, 1) := by decide +kernel
theorem dX9_kind_45 : decode cX9_kind 45 = .ok (.iconst 1, 1) := by decide +kernel
theorem dX9_kind_46 : decode cX9_kind 46 = .ok (.if_icmp .ne 15, 3) := by decide +kernel
theorem dX9_kind_49 : decode cX9_kind 49 = .ok (.aload_n 0, 1) := by decide +kernel
theorem dX9_kind_50 : decode cX9_kind 50 = .ok (.getfield 23, 3) := by decide +kernel
theorem dX9_kind_53 : decode cX9_kind 53 = .ok (.getfield 127, 3) := by decide +kernel
theorem dX9_kind_56 : decode cX9_kind 56 = .ok (.iload_n 1, 1) := by decide +kernel
theorem dX9_kind_57 : decode cX9_kind 57 = .ok (.invokestatic 123, 3) := by decide +kernel
theorem dX9_kind_60 : decode cX9_kind 60 = .ok (.ireturn, 1) := by decide +kernel
theorem dX9_kind_61 : decode cX9_kind 61 = .ok (.iload_n 2, 1) := by decide +kernel
theorem dX9_kind_62 : decode cX9_kind 62 = .ok (.iconst 2, 1) := by decide +kernel
theorem dX9_kind_63 : decode cX9_kind 63 = .ok (.if_icmp .ne 17, 3) := by decide +kernel
theorem dX9_kind_66 : decode cX9_kind 66 = .ok (.aload_n 0, 1) := by decide +kernel
theorem dX9_kind_67 : decode cX9_kind 67 = .ok (.getfield 23, 3) := by decide +kernel
theorem dX9_kind_70 : decode cX9_kind 70 = .ok (.getfield 130, 3) := by decide +kernel
theorem dX9_kind_73 : decode cX9_kind 73 = .ok (.iload_n 1, 1) := by decide +kernel
theorem dX9_kind_74 : decode cX9_kind 74 = .ok (.invokestatic 123, 3) := by decide +kernel
theorem dX9_kind_77 : decode cX9_kind 77 = .ok (.goto 11, 3) := by decide +kernel
theorem dX9_kind_80 : decode cX9_kind 80 = .ok (.aload_n 0, 1) := by decide +kernel
theorem dX9_kind_81 : decode cX9_kind 81 = .ok (.getfield 23, 3) := by decide +kernel
theorem dX9_kind_84 : decode cX9_kind 84 = .ok (.iload_n 1, 1) := by decide +kernel
theorem dX9_kind_85 : decode cX9_kind 85 = .ok (.invokevirtual 133, 3) := by decide +kernel
theorem dX9_kind_88 : decode cX9_kind 88 = .ok (.ireturn, 1) := by decide +kernel
theorem dX9_telling_0 : decode cX9_telling 0 = .ok (.iload_n 1, 1) := by decide +kernel
theorem dX9_telling_1 : decode cX9_telling 1 = .ok (.ifCond .lt 26, 3) := by decide +kernel
theorem dX9_telling_4 : decode cX9_telling 4 = .ok (.iload_n 1, 1) := by decide +kernel
theorem dX9_telling_5 : decode cX9_telling 5 = .ok (.aload_n 0, 1) := by decide +kernel
theorem dX9_telling_6 : decode cX9_telling 6 = .ok (.getfield 23, 3) := by decide +kernel
theorem dX9_telling_9 : decode cX9_telling 9 = .ok (.getfield 156, 3) := by decide +kernel
theorem dX9_telling_12 : decode cX9_telling 12 = .ok (.getfield 174, 3) := by decide +kernel
theorem dX9_telling_15 : decode cX9_telling 15 = .ok (.if_icmp .ge 12, 3) := by decide +kernel
theorem dX9_telling_18 : decode cX9_telling 18 = .ok (.iload_n 2, 1) := by decide +kernel
theorem dX9_telling_19 : decode cX9_telling 19 = .ok (.ifCond .lt 8, 3) := by decide +kernel
theorem dX9_telling_22 : decode cX9_telling 22 = .ok (.iload_n 2, 1) := by decide +kernel
theorem dX9_telling_23 : decode cX9_telling 23 = .ok (.iconst 2, 1) := by decide +kernel
theorem dX9_telling_24 : decode cX9_telling 24 = .ok (.if_icmp .le 11, 3) := by decide +kernel
theorem dX9_telling_27 : decode cX9_telling 27 = .ok (.new 117, 3) := by decide +kernel
theorem dX9_telling_30 : decode cX9_telling 30 = .ok (.dup, 1) := by decide +kernel
theorem dX9_telling_31 : decode cX9_telling 31 = .ok (.invokespecial 119, 3) := by decide +kernel
theorem dX9_telling_34 : decode cX9_telling 34 = .ok (.athrow, 1) := by decide +kernel
theorem dX9_telling_35 : decode cX9_telling 35 = .ok (.iload_n 2, 1) := by decide +kernel
theorem dX9_telling_36 : decode cX9_telling 36 = .ok (.ifCond .ne 18, 3) := by decide +kernel
theorem dX9_telling_39 : decode cX9_telling 39 = .ok (.aload_n 0, 1) := by decide +kernel
theorem dX9_telling_40 : decode cX9_telling 40 = .ok (.getfield 23, 3) := by decide +kernel
theorem dX9_telling_43 : decode cX9_telling 43 = .ok (.getfield 156, 3) := by decide +kernel
theorem dX9_telling_46 : decode cX9_telling 46 = .ok (.getfield 177, 3) := by decide +kernel
theorem dX9_telling_49 : decode cX9_telling 49 = .ok (.iload_n 1, 1) := by decide +kernel
theorem dX9_telling_50 : decode cX9_telling 50 = .ok (.invokestatic 123, 3) := by decide +kernel
theorem dX9_telling_53 : decode cX9_telling 53 = .ok (.ireturn, 1) := by decide +kernel
theorem dX9_telling_54 : decode cX9_telling 54 = .ok (.iload_n 2, 1) := by decide +kernel
theorem dX9_telling_55 : decode cX9_telling 55 = .ok (.iconst 1, 1) := by decide +kernel
theorem dX9_telling_56 : decode cX9_telling 56 = .ok (.if_icmp .ne 20, 3) := by decide +kernel
theorem dX9_telling_59 : decode cX9_telling 59 = .ok (.aload_n 0, 1) := by decide +kernel
theorem dX9_telling_60 : decode cX9_telling 60 = .ok (.getfield 23, 3) := by decide +kernel
theorem dX9_telling_63 : decode cX9_telling 63 = .ok (.getfield 156, 3) := by decide +kernel
theorem dX9_telling_66 : decode cX9_telling 66 = .ok (.getfield 180, 3) := by decide +kernel
theorem dX9_telling_69 : decode cX9_telling 69 = .ok (.iload_n 1, 1) := by decide +kernel
theorem dX9_telling_70 : decode cX9_telling 70 = .ok (.invokestatic 123, 3) := by decide +kernel
theorem dX9_telling_73 : decode cX9_telling 73 = .ok (.goto 17, 3) := by decide +kernel
theorem dX9_telling_76 : decode cX9_telling 76 = .ok (.aload_n 0, 1) := by decide +kernel
theorem dX9_telling_77 : decode cX9_telling 77 = .ok (.getfield 23, 3) := by decide +kernel
theorem dX9_telling_80 : decode cX9_telling 80 = .ok (.getfield 156, 3) := by decide +kernel
theorem dX9_telling_83 : decode cX9_telling 83 = .ok (.getfield 183, 3) := by decide +kernel
theorem dX9_telling_86 : decode cX9_telling 86 = .ok (.iload_n 1, 1) := by decide +kernel
theorem dX9_telling_87 : decode cX9_telling 87 = .ok (.invokestatic 123, 3) := by decide +kernel
theorem dX9_telling_90 : decode cX9_telling 90 = .ok (.ireturn, 1) := by decide +kernel
theorem dX9_odds_0 : decode cX9_odds 0 = .ok (.aload_n 0, 1) := by decide +kernel
theorem dX9_odds_1 : decode cX9_odds 1 = .ok (.getfield 23, 3) := by decide +kernel
theorem dX9_odds_4 : decode cX9_odds 4 = .ok (.iload_n 1, 1) := by decide +kernel
theorem dX9_odds_5 : decode cX9_odds 5 = .ok (.invokevirtual 113, 3) := by decide +kernel
theorem dX9_odds_8 : decode cX9_odds 8 = .ok (.ifCond .eq 19, 3) := by decide +kernel
theorem dX9_odds_11 : decode cX9_odds 11 = .ok (.iload_n 2, 1) := by decide +kernel
theorem dX9_odds_12 : decode cX9_odds 12 = .ok (.invokestatic 140, 3) := by decide +kernel
theorem dX9_odds_15 : decode cX9_odds 15 = .ok (.ifCond .eq 12, 3) := by decide +kernel
theorem dX9_odds_18 : decode cX9_odds 18 = .ok (.iload_n 3, 1) := by decide +kernel
theorem dX9_odds_19 : decode cX9_odds 19 = .ok (.ifCond .lt 8, 3) := by decide +kernel
theorem dX9_odds_22 : decode cX9_odds 22 = .ok (.iload_n 3, 1) := by decide +kernel
theorem dX9_odds_23 : decode cX9_odds 23 = .ok (.iconst 1, 1) := by decide +kernel
theorem dX9_odds_24 : decode cX9_odds 24 = .ok (.if_icmp .le 11, 3) := by decide +kernel
theorem dX9_odds_27 : decode cX9_odds 27 = .ok (.new 117, 3) := by decide +kernel
theorem dX9_odds_30 : decode cX9_odds 30 = .ok (.dup, 1) := by decide +kernel
theorem dX9_odds_31 : decode cX9_odds 31 = .ok (.invokespecial 119, 3) := by decide +kernel
theorem dX9_odds_34 : decode cX9_odds 34 = .ok (.athrow, 1) := by decide +kernel
theorem dX9_odds_35 : decode cX9_odds 35 = .ok (.aload_n 0, 1) := by decide +kernel
theorem dX9_odds_36 : decode cX9_odds 36 = .ok (.getfield 71, 3) := by decide +kernel
theorem dX9_odds_39 : decode cX9_odds 39 = .ok (.invokevirtual 186, 3) := by decide +kernel
theorem dX9_odds_42 : decode cX9_odds 42 = .ok (.aload_n 0, 1) := by decide +kernel
theorem dX9_odds_43 : decode cX9_odds 43 = .ok (.getfield 71, 3) := by decide +kernel
theorem dX9_odds_46 : decode cX9_odds 46 = .ok (.invokevirtual 211, 3) := by decide +kernel
theorem dX9_odds_49 : decode cX9_odds 49 = .ok (.ifCond .eq 11, 3) := by decide +kernel
theorem dX9_odds_52 : decode cX9_odds 52 = .ok (.new 117, 3) := by decide +kernel
theorem dX9_odds_55 : decode cX9_odds 55 = .ok (.dup, 1) := by decide +kernel
theorem dX9_odds_56 : decode cX9_odds 56 = .ok (.invokespecial 119, 3) := by decide +kernel
theorem dX9_odds_59 : decode cX9_odds 59 = .ok (.athrow, 1) := by decide +kernel
theorem dX9_odds_60 : decode cX9_odds 60 = .ok (.aload_n 0, 1) := by decide +kernel
theorem dX9_odds_61 : decode cX9_odds 61 = .ok (.getfield 71, 3) := by decide +kernel
theorem dX9_odds_64 : decode cX9_odds 64 = .ok (.invokevirtual 195, 3) := by decide +kernel
theorem dX9_odds_67 : decode cX9_odds 67 = .ok (.aload_n 0, 1) := by decide +kernel
theorem dX9_odds_68 : decode cX9_odds 68 = .ok (.getfield 71, 3) := by decide +kernel
theorem dX9_odds_71 : decode cX9_odds 71 = .ok (.iload_n 1, 1) := by decide +kernel
theorem dX9_odds_72 : decode cX9_odds 72 = .ok (.aload_n 0, 1) := by decide +kernel
theorem dX9_odds_73 : decode cX9_odds 73 = .ok (.getfield 23, 3) := by decide +kernel
theorem dX9_odds_76 : decode cX9_odds 76 = .ok (.iload_n 1, 1) := by decide +kernel
theorem dX9_odds_77 : decode cX9_odds 77 = .ok (.iload_n 2, 1) := by decide +kernel
theorem dX9_odds_78 : decode cX9_odds 78 = .ok (.invokevirtual 143, 3) := by decide +kernel
theorem dX9_odds_81 : decode cX9_odds 81 = .ok (.invokevirtual 198, 3) := by decide +kernel
theorem dX9_odds_84 : decode cX9_odds 84 = .ok (.aload_n 0, 1) := by decide +kernel
theorem dX9_odds_85 : decode cX9_odds 85 = .ok (.getfield 71, 3) := by decide +kernel
theorem dX9_odds_88 : decode cX9_odds 88 = .ok (.invokevirtual 202, 3) := by decide +kernel
theorem dX9_odds_91 : decode cX9_odds 91 = .ok (.aload_n 0, 1) := by decide +kernel
theorem dX9_odds_92 : decode cX9_odds 92 = .ok (.getfield 71, 3) := by decide +kernel
theorem dX9_odds_95 : decode cX9_odds 95 = .ok (.invokevirtual 189, 3) := by decide +kernel
theorem dX9_odds_98 : decode cX9_odds 98 = .ok (.iload_n 3, 1) := by decide +kernel
theorem dX9_odds_99 : decode cX9_odds 99 = .ok (.invokestatic 223, 3) := by decide +kernel
theorem dX9_odds_102 : decode cX9_odds 102 = .ok (.lreturn, 1) := by decide +kernel
theorem dX9_bet_0 : decode cX9_bet 0 = .ok (.aload_n 0, 1) := by decide +kernel
theorem dX9_bet_1 : decode cX9_bet 1 = .ok (.getfield 23, 3) := by decide +kernel
theorem dX9_bet_4 : decode cX9_bet 4 = .ok (.iload_n 1, 1) := by decide +kernel
theorem dX9_bet_5 : decode cX9_bet 5 = .ok (.invokevirtual 113, 3) := by decide +kernel
theorem dX9_bet_8 : decode cX9_bet 8 = .ok (.ifCond .eq 19, 3) := by decide +kernel
theorem dX9_bet_11 : decode cX9_bet 11 = .ok (.iload_n 2, 1) := by decide +kernel
theorem dX9_bet_12 : decode cX9_bet 12 = .ok (.invokestatic 140, 3) := by decide +kernel
theorem dX9_bet_15 : decode cX9_bet 15 = .ok (.ifCond .eq 12, 3) := by decide +kernel
theorem dX9_bet_18 : decode cX9_bet 18 = .ok (.iload_n 3, 1) := by decide +kernel
theorem dX9_bet_19 : decode cX9_bet 19 = .ok (.ifCond .lt 8, 3) := by decide +kernel
theorem dX9_bet_22 : decode cX9_bet 22 = .ok (.iload_n 3, 1) := by decide +kernel
theorem dX9_bet_23 : decode cX9_bet 23 = .ok (.iconst 1, 1) := by decide +kernel
theorem dX9_bet_24 : decode cX9_bet 24 = .ok (.if_icmp .le 11, 3) := by decide +kernel
theorem dX9_bet_27 : decode cX9_bet 27 = .ok (.new 117, 3) := by decide +kernel
theorem dX9_bet_30 : decode cX9_bet 30 = .ok (.dup, 1) := by decide +kernel
theorem dX9_bet_31 : decode cX9_bet 31 = .ok (.invokespecial 119, 3) := by decide +kernel
theorem dX9_bet_34 : decode cX9_bet 34 = .ok (.athrow, 1) := by decide +kernel
theorem dX9_bet_35 : decode cX9_bet 35 = .ok (.aload_n 0, 1) := by decide +kernel
theorem dX9_bet_36 : decode cX9_bet 36 = .ok (.getfield 71, 3) := by decide +kernel
theorem dX9_bet_39 : decode cX9_bet 39 = .ok (.invokevirtual 186, 3) := by decide +kernel
theorem dX9_bet_42 : decode cX9_bet 42 = .ok (.aload_n 0, 1) := by decide +kernel
theorem dX9_bet_43 : decode cX9_bet 43 = .ok (.getfield 71, 3) := by decide +kernel
theorem dX9_bet_46 : decode cX9_bet 46 = .ok (.invokevirtual 211, 3) := by decide +kernel
theorem dX9_bet_49 : decode cX9_bet 49 = .ok (.ifCond .eq 11, 3) := by decide +kernel
theorem dX9_bet_52 : decode cX9_bet 52 = .ok (.new 117, 3) := by decide +kernel
theorem dX9_bet_55 : decode cX9_bet 55 = .ok (.dup, 1) := by decide +kernel
theorem dX9_bet_56 : decode cX9_bet 56 = .ok (.invokespecial 119, 3) := by decide +kernel
theorem dX9_bet_59 : decode cX9_bet 59 = .ok (.athrow, 1) := by decide +kernel
theorem dX9_bet_60 : decode cX9_bet 60 = .ok (.aload_n 0, 1) := by decide +kernel
theorem dX9_bet_61 : decode cX9_bet 61 = .ok (.getfield 71, 3) := by decide +kernel
theorem dX9_bet_64 : decode cX9_bet 64 = .ok (.iload_n 1, 1) := by decide +kernel
theorem dX9_bet_65 : decode cX9_bet 65 = .ok (.iload_n 2, 1) := by decide +kernel
theorem dX9_bet_66 : decode cX9_bet 66 = .ok (.invokevirtual 227, 3) := by decide +kernel
theorem dX9_bet_69 : decode cX9_bet 69 = .ok (.aload_n 0, 1) := by decide +kernel
theorem dX9_bet_70 : decode cX9_bet 70 = .ok (.getfield 71, 3) := by decide +kernel
theorem dX9_bet_73 : decode cX9_bet 73 = .ok (.invokevirtual 189, 3) := by decide +kernel
theorem dX9_bet_76 : decode cX9_bet 76 = .ok (.iload_n 3, 1) := by decide +kernel
theorem dX9_bet_77 : decode cX9_bet 77 = .ok (.invokestatic 223, 3) := by decide +kernel
theorem dX9_bet_80 : decode cX9_bet 80 = .ok (.lreturn, 1) := by decide +kernel
theorem dL_kind_0 : decode cL_kind 0 = .ok (.aload_n 3, 1) := by decide +kernel
theorem dL_kind_1 : decode cL_kind 1 = .ok (.iconst 0, 1) := by decide +kernel
theorem dL_kind_2 : decode cL_kind 2 = .ok (.aload_n 0, 1) := by decide +kernel
theorem dL_kind_3 : decode cL_kind 3 = .ok (.iload_n 1, 1) := by decide +kernel
theorem dL_kind_4 : decode cL_kind 4 = .ok (.iload_n 2, 1) := by decide +kernel
theorem dL_kind_5 : decode cL_kind 5 = .ok (.invokevirtual 7, 3) := by decide +kernel
theorem dL_kind_8 : decode cL_kind 8 = .ok (.i2l, 1) := by decide +kernel
theorem dL_kind_9 : decode cL_kind 9 = .ok (.lastore, 1) := by decide +kernel
theorem dL_kind_10 : decode cL_kind 10 = .ok (.goto 7, 3) := by decide +kernel
theorem dL_kind_13 : decode cL_kind 13 = .ok (.astore 4, 2) := by decide +kernel
theorem dL_kind_15 : decode cL_kind 15 = .ok (.iconst 1, 1) := by decide +kernel
theorem dL_kind_16 : decode cL_kind 16 = .ok (.ireturn, 1) := by decide +kernel
theorem dL_kind_17 : decode cL_kind 17 = .ok (.iconst 0, 1) := by decide +kernel
theorem dL_kind_18 : decode cL_kind 18 = .ok (.ireturn, 1) := by decide +kernel
theorem dL_telling_0 : decode cL_telling 0 = .ok (.aload_n 3, 1) := by decide +kernel
theorem dL_telling_1 : decode cL_telling 1 = .ok (.iconst 0, 1) := by decide +kernel
theorem dL_telling_2 : decode cL_telling 2 = .ok (.aload_n 0, 1) := by decide +kernel
theorem dL_telling_3 : decode cL_telling 3 = .ok (.iload_n 1, 1) := by decide +kernel
theorem dL_telling_4 : decode cL_telling 4 = .ok (.iload_n 2, 1) := by decide +kernel
theorem dL_telling_5 : decode cL_telling 5 = .ok (.invokevirtual 15, 3) := by decide +kernel
theorem dL_telling_8 : decode cL_telling 8 = .ok (.i2l, 1) := by decide +kernel
theorem dL_telling_9 : decode cL_telling 9 = .ok (.lastore, 1) := by decide +kernel
theorem dL_telling_10 : decode cL_telling 10 = .ok (.goto 7, 3) := by decide +kernel
theorem dL_telling_13 : decode cL_telling 13 = .ok (.astore 4, 2) := by decide +kernel
theorem dL_telling_15 : decode cL_telling 15 = .ok (.iconst 1, 1) := by decide +kernel
theorem dL_telling_16 : decode cL_telling 16 = .ok (.ireturn, 1) := by decide +kernel
theorem dL_telling_17 : decode cL_telling 17 = .ok (.iconst 0, 1) := by decide +kernel
theorem dL_telling_18 : decode cL_telling 18 = .ok (.ireturn, 1) := by decide +kernel
theorem dL_odds_0 : decode cL_odds 0 = .ok (.aload 4, 2) := by decide +kernel
theorem dL_odds_2 : decode cL_odds 2 = .ok (.iconst 0, 1) := by decide +kernel
theorem dL_odds_3 : decode cL_odds 3 = .ok (.aload_n 0, 1) := by decide +kernel
theorem dL_odds_4 : decode cL_odds 4 = .ok (.iload_n 1, 1) := by decide +kernel
theorem dL_odds_5 : decode cL_odds 5 = .ok (.iload_n 2, 1) := by decide +kernel
theorem dL_odds_6 : decode cL_odds 6 = .ok (.iload_n 3, 1) := by decide +kernel
theorem dL_odds_7 : decode cL_odds 7 = .ok (.invokevirtual 18, 3) := by decide +kernel
theorem dL_odds_10 : decode cL_odds 10 = .ok (.lastore, 1) := by decide +kernel
theorem dL_odds_11 : decode cL_odds 11 = .ok (.goto 7, 3) := by decide +kernel
theorem dL_odds_14 : decode cL_odds 14 = .ok (.astore 5, 2) := by decide +kernel
theorem dL_odds_16 : decode cL_odds 16 = .ok (.iconst 1, 1) := by decide +kernel
theorem dL_odds_17 : decode cL_odds 17 = .ok (.ireturn, 1) := by decide +kernel
theorem dL_odds_18 : decode cL_odds 18 = .ok (.iconst 0, 1) := by decide +kernel
theorem dL_odds_19 : decode cL_odds 19 = .ok (.ireturn, 1) := by decide +kernel
theorem dL_bet_0 : decode cL_bet 0 = .ok (.aload 4, 2) := by decide +kernel
theorem dL_bet_2 : decode cL_bet 2 = .ok (.iconst 0, 1) := by decide +kernel
theorem dL_bet_3 : decode cL_bet 3 = .ok (.aload_n 0, 1) := by decide +kernel
theorem dL_bet_4 : decode cL_bet 4 = .ok (.iload_n 1, 1) := by decide +kernel
theorem dL_bet_5 : decode cL_bet 5 = .ok (.iload_n 2, 1) := by decide +kernel
theorem dL_bet_6 : decode cL_bet 6 = .ok (.iload_n 3, 1) := by decide +kernel
theorem dL_bet_7 : decode cL_bet 7 = .ok (.invokevirtual 22, 3) := by decide +kernel
theorem dL_bet_10 : decode cL_bet 10 = .ok (.lastore, 1) := by decide +kernel
theorem dL_bet_11 : decode cL_bet 11 = .ok (.goto 7, 3) := by decide +kernel
theorem dL_bet_14 : decode cL_bet 14 = .ok (.astore 5, 2) := by decide +kernel
theorem dL_bet_16 : decode cL_bet 16 = .ok (.iconst 1, 1) := by decide +kernel
theorem dL_bet_17 : decode cL_bet 17 = .ok (.ireturn, 1) := by decide +kernel
theorem dL_bet_18 : decode cL_bet 18 = .ok (.iconst 0, 1) := by decide +kernel
theorem dL_bet_19 : decode cL_bet 19 = .ok (.ireturn, 1) := by decide +kernel
abbrev si_X9_bet : SI := (cX9_bet, RX9, 4, (some .long), 6, 135)
def f_X9_bet_27 (d : DD) : Option (Option Int64 × DD) :=
  some (none, d)
set_option maxRecDepth 100000 in
set_option maxHeartbeats 4000000 in
theorem w_X9_bet_27 {E : XE} (hX : XF E []) (d : DD) : AW E si_X9_bet 0 0 (QX E wrL) (f_X9_bet_27 d) 27 [] [] d := by
  unfold f_X9_bet_27
  refine r_sub [] (lv' := []) rfl ?_
  exact r_throw hX rfl dX9_bet_27 dX9_bet_30 dX9_bet_31 dX9_bet_34 (by decide)
def f_X9_bet (p1 : Int32) (p2 : Int32) (p3 : Int32) (d : DD) : Option (Option Int64 × DD) :=
  (f_X1_hasKind 2 p1 d).bind fun q1 =>
  if q1.1 = 0 then
  f_X9_bet_27 q1.2
  else
  (f_X9_isHour p2 q1.2).bind fun q2 =>
    if q2.1 = 0 then
    f_X9_bet_27 q2.2
    else
    if p3 < 0 then
      f_X9_bet_27 q2.2
      else
      if (1 : Int32) < p3 then
        f_X9_bet_27 q2.2
        else
        (f_X8_gatherAll q2.2).bind fun q3 =>
          (f_X8_isEmpty q3.2).bind fun q4 =>
          if q4.1 = 0 then
          (f_X8_ahead p1 p2 q4.2).bind fun q5 =>
            (f_X8_total q5.2).bind fun q6 =>
            (f_X9_reduced q5.1 q6.1 p3 q6.2).bind fun q7 =>
            some (some q7.1, q7.2)
          else
          some (none, q4.2)
set_option maxRecDepth 100000 in
set_option maxHeartbeats 4000000 in
theorem am_X9_bet (p1 : Int32) (p2 : Int32) (p3 : Int32) (d : DD) : AX wrL mi_X9_bet 6 135 [.ref 0, .int p1, .int p2, .int p3] d (f_X9_bet p1 p2 p3 d) := by
  refine AX_intro (si := si_X9_bet) (lv := [(0, .ref 0), (1, .int p1), (2, .int p2), (3, .int p3)]) rfl (by decide +kernel) rfl (Nat.le_of_ble_eq_true rfl) (fun E hX => ?_)
  unfold f_X9_bet
  refine r_aload_n_0 dX9_bet_0 rfl ?_
  refine r_getr (t := 2) (cc := 9) 3 rfl rfl uX9 (by decide) rfl fw_X9_23 rfl dX9_bet_1 ?_
  refine r_iload_n_1 dX9_bet_4 rfl ?_
  refine r_callVI (cc := 1) [] (am_X1_hasKind 2 rfl p1 d) rfl rfl cf_X1_hasKind mw_X9_113 (by decide) dX9_bet_5 rfl (Nat.le_of_ble_eq_true rfl) ⟨rfl, rfl⟩ (fun q1 => ?_)
  refine r_if_eq (tgt := 27) dX9_bet_8 (by decide) ?_ ?_
  · refine r_sub [] (lv' := []) rfl ?_
    exact w_X9_bet_27 hX q1.2
  · refine r_iload_n_2 dX9_bet_11 rfl ?_
    refine r_callSI [] (am_X9_isHour p2 q1.2) cf_X9_isHour mw_X9_140 (by decide) dX9_bet_12 rfl (Nat.le_of_ble_eq_true rfl) ⟨rfl, rfl⟩ (fun q2 => ?_)
    refine r_if_eq (tgt := 27) dX9_bet_15 (by decide) ?_ ?_
    · refine r_sub [] (lv' := []) rfl ?_
      exact w_X9_bet_27 hX q2.2
    · refine r_iload_n_3 dX9_bet_18 rfl ?_
      refine r_if_lt (tgt := 27) dX9_bet_19 (by decide) ?_ ?_
      · refine r_sub [] (lv' := []) rfl ?_
        exact w_X9_bet_27 hX q2.2
      · refine r_iload_n_3 dX9_bet_22 rfl ?_
        refine r_iconst dX9_bet_23 ki_1 ?_
        refine r_icmp_le (tgt := 35) dX9_bet_24 (by decide) ?_ ?_
        · refine r_aload_n_0 dX9_bet_35 rfl ?_
          refine r_getr (t := 72) (cc := 9) 11 rfl rfl uX9 (by decide) rfl fw_X9_71 rfl dX9_bet_36 ?_
          refine r_callVU (cc := 8) [] (am_X8_gatherAll q2.2) rfl rfl cf_X8_gatherAll mw_X9_186 (by decide) dX9_bet_39 rfl (Nat.le_of_ble_eq_true rfl) ⟨rfl, rfl⟩ (fun q3 => ?_)
          refine r_aload_n_0 dX9_bet_42 rfl ?_
          refine r_getr (t := 72) (cc := 9) 11 rfl rfl uX9 (by decide) rfl fw_X9_71 rfl dX9_bet_43 ?_
          refine r_callVI (cc := 8) [] (am_X8_isEmpty q3.2) rfl rfl cf_X8_isEmpty mw_X9_211 (by decide) dX9_bet_46 rfl (Nat.le_of_ble_eq_true rfl) ⟨rfl, rfl⟩ (fun q4 => ?_)
          refine r_if_eq (tgt := 60) dX9_bet_49 (by decide) ?_ ?_
          · refine r_aload_n_0 dX9_bet_60 rfl ?_
            refine r_getr (t := 72) (cc := 9) 11 rfl rfl uX9 (by decide) rfl fw_X9_71 rfl dX9_bet_61 ?_
            refine r_iload_n_1 dX9_bet_64 rfl ?_
            refine r_iload_n_2 dX9_bet_65 rfl ?_
            refine r_callVL (cc := 8) [] (am_X8_ahead p1 p2 q4.2) rfl rfl cf_X8_ahead mw_X9_227 (by decide) dX9_bet_66 rfl (Nat.le_of_ble_eq_true rfl) ⟨rfl, rfl⟩ (fun q5 => ?_)
            refine r_aload_n_0 dX9_bet_69 rfl ?_
            refine r_getr (t := 72) (cc := 9) 11 rfl rfl uX9 (by decide) rfl fw_X9_71 rfl dX9_bet_70 ?_
            refine r_callVL (cc := 8) [.long q5.1] (am_X8_total q5.2) rfl rfl cf_X8_total mw_X9_189 (by decide) dX9_bet_73 rfl (Nat.le_of_ble_eq_true rfl) ⟨rfl, rfl⟩ (fun q6 => ?_)
            refine r_iload_n_3 dX9_bet_76 rfl ?_
            refine r_callSL [] (am_X9_reduced q5.1 q6.1 p3 q6.2) cf_X9_reduced mw_X9_223 (by decide) dX9_bet_77 rfl (Nat.le_of_ble_eq_true rfl) ⟨rfl, rfl⟩ (fun q7 => ?_)
            exact r_xlreturn dX9_bet_80 rfl
          · refine r_sub [] (lv' := []) rfl ?_
            exact r_throw hX rfl dX9_bet_52 dX9_bet_55 dX9_bet_56 dX9_bet_59 (by decide)
        · refine r_sub [] (lv' := []) rfl ?_
          exact w_X9_bet_27 hX q2.2
theorem cf_X9_bet : CFv mi_X9_bet 3 := ⟨iw_X9_bet, vw_X9_bet, nw_X9, cw_X9_bet, by unfold plainF; decide +kernel⟩

abbrev si_X9_kind : SI := (cX9_kind, RX9, 3, (some .int), 6, 81)
def f_X9_kind_20 (d : DD) : Option (Option Int32 × DD) :=
  some (none, d)
set_option maxRecDepth 100000 in
set_option maxHeartbeats 4000000 in
theorem w_X9_kind_20 {E : XE} (hX : XF E []) (d : DD) : AW E si_X9_kind 0 0 (QX E wrI) (f_X9_kind_20 d) 20 [] [] d := by
  unfold f_X9_kind_20
  refine r_sub [] (lv' := []) rfl ?_
  exact r_throw hX rfl dX9_kind_20 dX9_kind_23 dX9_kind_24 dX9_kind_27 (by decide)
def f_X9_kind (p1 : Int32) (p2 : Int32) (d : DD) : Option (Option Int32 × DD) :=
  (f_X1_hasKind 2 p1 d).bind fun q1 =>
  if q1.1 = 0 then
  f_X9_kind_20 q1.2
  else
  if p2 < 0 then
    f_X9_kind_20 q1.2
    else
    if (3 : Int32) < p2 then
      f_X9_kind_20 q1.2
      else
      if p2 = 0 then
        (f_X9_at 4 p1 q1.2).bind fun q5 =>
          some (some q5.1, q5.2)
        else
        if p2 = (1 : Int32) then
          (f_X9_at 5 p1 q1.2).bind fun q4 =>
            some (some q4.1, q4.2)
          else
          if p2 = (2 : Int32) then
            (f_X9_at 6 p1 q1.2).bind fun q3 =>
              some (some q3.1, q3.2)
            else
            (f_X1_timetablesOf 2 p1 q1.2).bind fun q2 =>
              some (some q2.1, q2.2)
set_option maxRecDepth 100000 in
set_option maxHeartbeats 4000000 in
theorem am_X9_kind (p1 : Int32) (p2 : Int32) (d : DD) : AX wrI mi_X9_kind 6 81 [.ref 0, .int p1, .int p2] d (f_X9_kind p1 p2 d) := by
  refine AX_intro (si := si_X9_kind) (lv := [(0, .ref 0), (1, .int p1), (2, .int p2)]) rfl (by decide +kernel) rfl (Nat.le_of_ble_eq_true rfl) (fun E hX => ?_)
  unfold f_X9_kind
  refine r_aload_n_0 dX9_kind_0 rfl ?_
  refine r_getr (t := 2) (cc := 9) 3 rfl rfl uX9 (by decide) rfl fw_X9_23 rfl dX9_kind_1 ?_
  refine r_iload_n_1 dX9_kind_4 rfl ?_
  refine r_callVI (cc := 1) [] (am_X1_hasKind 2 rfl p1 d) rfl rfl cf_X1_hasKind mw_X9_113 (by decide) dX9_kind_5 rfl (Nat.le_of_ble_eq_true rfl) ⟨rfl, rfl⟩ (fun q1 => ?_)
  refine r_if_eq (tgt := 20) dX9_kind_8 (by decide) ?_ ?_
  · refine r_sub [] (lv' := []) rfl ?_
    exact w_X9_kind_20 hX q1.2
  · refine r_iload_n_2 dX9_kind_11 rfl ?_
    refine r_if_lt (tgt := 20) dX9_kind_12 (by decide) ?_ ?_
    · refine r_sub [] (lv' := []) rfl ?_
      exact w_X9_kind_20 hX q1.2
    · refine r_iload_n_2 dX9_kind_15 rfl ?_
      refine r_iconst dX9_kind_16 ki_3 ?_
      refine r_icmp_le (tgt := 28) dX9_kind_17 (by decide) ?_ ?_
      · refine r_iload_n_2 dX9_kind_28 rfl ?_
        refine r_if_ne (tgt := 44) dX9_kind_29 (by decide) ?_ ?_
        · refine r_iload_n_2 dX9_kind_44 rfl ?_
          refine r_iconst dX9_kind_45 ki_1 ?_
          refine r_icmp_ne (tgt := 61) dX9_kind_46 (by decide) ?_ ?_
          · refine r_iload_n_2 dX9_kind_61 rfl ?_
            refine r_iconst dX9_kind_62 ki_2 ?_
            refine r_icmp_ne (tgt := 80) dX9_kind_63 (by decide) ?_ ?_
            · refine r_aload_n_0 dX9_kind_80 rfl ?_
              refine r_getr (t := 2) (cc := 9) 3 rfl rfl uX9 (by decide) rfl fw_X9_23 rfl dX9_kind_81 ?_
              refine r_iload_n_1 dX9_kind_84 rfl ?_
              refine r_callVI (cc := 1) [] (am_X1_timetablesOf 2 rfl p1 q1.2) rfl rfl cf_X1_timetablesOf mw_X9_133 (by decide) dX9_kind_85 rfl (Nat.le_of_ble_eq_true rfl) ⟨rfl, rfl⟩ (fun q2 => ?_)
              exact r_xireturn dX9_kind_88 rfl
            · refine r_aload_n_0 dX9_kind_66 rfl ?_
              refine r_getr (t := 2) (cc := 9) 3 rfl rfl uX9 (by decide) rfl fw_X9_23 rfl dX9_kind_67 ?_
              refine r_getr (t := 6) (cc := 1) 5 rfl rfl uX1 (by decide) rfl fw_X9_130 rfl dX9_kind_70 ?_
              refine r_iload_n_1 dX9_kind_73 rfl ?_
              refine r_callSI [] (am_X9_at 6 rfl p1 q1.2) cf_X9_at mw_X9_123 (by decide) dX9_kind_74 rfl (Nat.le_of_ble_eq_true rfl) ⟨rfl, rfl⟩ (fun q3 => ?_)
              refine r_goto (tgt := 88) dX9_kind_77 (by decide) ?_
              exact r_xireturn dX9_kind_88 rfl
          · refine r_aload_n_0 dX9_kind_49 rfl ?_
            refine r_getr (t := 2) (cc := 9) 3 rfl rfl uX9 (by decide) rfl fw_X9_23 rfl dX9_kind_50 ?_
            refine r_getr (t := 5) (cc := 1) 4 rfl rfl uX1 (by decide) rfl fw_X9_127 rfl dX9_kind_53 ?_
            refine r_iload_n_1 dX9_kind_56 rfl ?_
            refine r_callSI [] (am_X9_at 5 rfl p1 q1.2) cf_X9_at mw_X9_123 (by decide) dX9_kind_57 rfl (Nat.le_of_ble_eq_true rfl) ⟨rfl, rfl⟩ (fun q4 => ?_)
            exact r_xireturn dX9_kind_60 rfl
        · refine r_aload_n_0 dX9_kind_32 rfl ?_
          refine r_getr (t := 2) (cc := 9) 3 rfl rfl uX9 (by decide) rfl fw_X9_23 rfl dX9_kind_33 ?_
          refine r_getr (t := 4) (cc := 1) 3 rfl rfl uX1 (by decide) rfl fw_X9_120 rfl dX9_kind_36 ?_
          refine r_iload_n_1 dX9_kind_39 rfl ?_
          refine r_callSI [] (am_X9_at 4 rfl p1 q1.2) cf_X9_at mw_X9_123 (by decide) dX9_kind_40 rfl (Nat.le_of_ble_eq_true rfl) ⟨rfl, rfl⟩ (fun q5 => ?_)
          exact r_xireturn dX9_kind_43 rfl
      · refine r_sub [] (lv' := []) rfl ?_
        exact w_X9_kind_20 hX q1.2
theorem cf_X9_kind : CFv mi_X9_kind 2 := ⟨iw_X9_kind, vw_X9_kind, nw_X9, cw_X9_kind, by unfold plainF; decide +kernel⟩

abbrev si_X9_odds : SI := (cX9_odds, RX9, 4, (some .long), 6, 135)
def f_X9_odds_27 (d : DD) : Option (Option Int64 × DD) :=
  some (none, d)
set_option maxRecDepth 100000 in
set_option maxHeartbeats 4000000 in
theorem w_X9_odds_27 {E : XE} (hX : XF E []) (d : DD) : AW E si_X9_odds 0 0 (QX E wrL) (f_X9_odds_27 d) 27 [] [] d := by
  unfold f_X9_odds_27
  refine r_sub [] (lv' := []) rfl ?_
  exact r_throw hX rfl dX9_odds_27 dX9_odds_30 dX9_odds_31 dX9_odds_34 (by decide)
def f_X9_odds (p1 : Int32) (p2 : Int32) (p3 : Int32) (d : DD) : Option (Option Int64 × DD) :=
  (f_X1_hasKind 2 p1 d).bind fun q1 =>
  if q1.1 = 0 then
  f_X9_odds_27 q1.2
  else
  (f_X9_isHour p2 q1.2).bind fun q2 =>
    if q2.1 = 0 then
    f_X9_odds_27 q2.2
    else
    if p3 < 0 then
      f_X9_odds_27 q2.2
      else
      if (1 : Int32) < p3 then
        f_X9_odds_27 q2.2
        else
        (f_X8_gatherAll q2.2).bind fun q3 =>
          (f_X8_isEmpty q3.2).bind fun q4 =>
          if q4.1 = 0 then
          (f_X8_pickAny q4.2).bind fun q5 =>
            (f_X1_passing 2 p1 p2 q5.2).bind fun q6 =>
            (f_X8_pick p1 q6.1 q6.2).bind fun q7 =>
            (f_X8_picked q7.2).bind fun q8 =>
            (f_X8_total q8.2).bind fun q9 =>
            (f_X9_reduced q8.1 q9.1 p3 q9.2).bind fun q10 =>
            some (some q10.1, q10.2)
          else
          some (none, q4.2)
set_option maxRecDepth 100000 in
set_option maxHeartbeats 4000000 in
theorem am_X9_odds (p1 : Int32) (p2 : Int32) (p3 : Int32) (d : DD) : AX wrL mi_X9_odds 6 135 [.ref 0, .int p1, .int p2, .int p3] d (f_X9_odds p1 p2 p3 d) := by
  refine AX_intro (si := si_X9_odds) (lv := [(0, .ref 0), (1, .int p1), (2, .int p2), (3, .int p3)]) rfl (by decide +kernel) rfl (Nat.le_of_ble_eq_true rfl) (fun E hX => ?_)
  unfold f_X9_odds
  refine r_aload_n_0 dX9_odds_0 rfl ?_
  refine r_getr (t := 2) (cc := 9) 3 rfl rfl uX9 (by decide) rfl fw_X9_23 rfl dX9_odds_1 ?_
  refine r_iload_n_1 dX9_odds_4 rfl ?_
  refine r_callVI (cc := 1) [] (am_X1_hasKind 2 rfl p1 d) rfl rfl cf_X1_hasKind mw_X9_113 (by decide) dX9_odds_5 rfl (Nat.le_of_ble_eq_true rfl) ⟨rfl, rfl⟩ (fun q1 => ?_)
  refine r_if_eq (tgt := 27) dX9_odds_8 (by decide) ?_ ?_
  · refine r_sub [] (lv' := []) rfl ?_
    exact w_X9_odds_27 hX q1.2
  · refine r_iload_n_2 dX9_odds_11 rfl ?_
    refine r_callSI [] (am_X9_isHour p2 q1.2) cf_X9_isHour mw_X9_140 (by decide) dX9_odds_12 rfl (Nat.le_of_ble_eq_true rfl) ⟨rfl, rfl⟩ (fun q2 => ?_)
    refine r_if_eq (tgt := 27) dX9_odds_15 (by decide) ?_ ?_
    · refine r_sub [] (lv' := []) rfl ?_
      exact w_X9_odds_27 hX q2.2
    · refine r_iload_n_3 dX9_odds_18 rfl ?_
      refine r_if_lt (tgt := 27) dX9_odds_19 (by decide) ?_ ?_
      · refine r_sub [] (lv' := []) rfl ?_
        exact w_X9_odds_27 hX q2.2
      · refine r_iload_n_3 dX9_odds_22 rfl ?_
        refine r_iconst dX9_odds_23 ki_1 ?_
        refine r_icmp_le (tgt := 35) dX9_odds_24 (by decide) ?_ ?_
        · refine r_aload_n_0 dX9_odds_35 rfl ?_
          refine r_getr (t := 72) (cc := 9) 11 rfl rfl uX9 (by decide) rfl fw_X9_71 rfl dX9_odds_36 ?_
          refine r_callVU (cc := 8) [] (am_X8_gatherAll q2.2) rfl rfl cf_X8_gatherAll mw_X9_186 (by decide) dX9_odds_39 rfl (Nat.le_of_ble_eq_true rfl) ⟨rfl, rfl⟩ (fun q3 => ?_)
          refine r_aload_n_0 dX9_odds_42 rfl ?_
          refine r_getr (t := 72) (cc := 9) 11 rfl rfl uX9 (by decide) rfl fw_X9_71 rfl dX9_odds_43 ?_
          refine r_callVI (cc := 8) [] (am_X8_isEmpty q3.2) rfl rfl cf_X8_isEmpty mw_X9_211 (by decide) dX9_odds_46 rfl (Nat.le_of_ble_eq_true rfl) ⟨rfl, rfl⟩ (fun q4 => ?_)
          refine r_if_eq (tgt := 60) dX9_odds_49 (by decide) ?_ ?_
          · refine r_aload_n_0 dX9_odds_60 rfl ?_
            refine r_getr (t := 72) (cc := 9) 11 rfl rfl uX9 (by decide) rfl fw_X9_71 rfl dX9_odds_61 ?_
            refine r_callVU (cc := 8) [] (am_X8_pickAny q4.2) rfl rfl cf_X8_pickAny mw_X9_195 (by decide) dX9_odds_64 rfl (Nat.le_of_ble_eq_true rfl) ⟨rfl, rfl⟩ (fun q5 => ?_)
            refine r_aload_n_0 dX9_odds_67 rfl ?_
            refine r_getr (t := 72) (cc := 9) 11 rfl rfl uX9 (by decide) rfl fw_X9_71 rfl dX9_odds_68 ?_
            refine r_iload_n_1 dX9_odds_71 rfl ?_
            refine r_aload_n_0 dX9_odds_72 rfl ?_
            refine r_getr (t := 2) (cc := 9) 3 rfl rfl uX9 (by decide) rfl fw_X9_23 rfl dX9_odds_73 ?_
            refine r_iload_n_1 dX9_odds_76 rfl ?_
            refine r_iload_n_2 dX9_odds_77 rfl ?_
            refine r_callVL (cc := 1) [.int p1, .ref 72] (am_X1_passing 2 rfl p1 p2 q5.2) rfl rfl cf_X1_passing mw_X9_143 (by decide) dX9_odds_78 rfl (Nat.le_of_ble_eq_true rfl) ⟨rfl, rfl⟩ (fun q6 => ?_)
            refine r_callVU (cc := 8) [] (am_X8_pick p1 q6.1 q6.2) rfl rfl cf_X8_pick mw_X9_198 (by decide) dX9_odds_81 rfl (Nat.le_of_ble_eq_true rfl) ⟨rfl, rfl⟩ (fun q7 => ?_)
            refine r_aload_n_0 dX9_odds_84 rfl ?_
            refine r_getr (t := 72) (cc := 9) 11 rfl rfl uX9 (by decide) rfl fw_X9_71 rfl dX9_odds_85 ?_
            refine r_callVL (cc := 8) [] (am_X8_picked q7.2) rfl rfl cf_X8_picked mw_X9_202 (by decide) dX9_odds_88 rfl (Nat.le_of_ble_eq_true rfl) ⟨rfl, rfl⟩ (fun q8 => ?_)
            refine r_aload_n_0 dX9_odds_91 rfl ?_
            refine r_getr (t := 72) (cc := 9) 11 rfl rfl uX9 (by decide) rfl fw_X9_71 rfl dX9_odds_92 ?_
            refine r_callVL (cc := 8) [.long q8.1] (am_X8_total q8.2) rfl rfl cf_X8_total mw_X9_189 (by decide) dX9_odds_95 rfl (Nat.le_of_ble_eq_true rfl) ⟨rfl, rfl⟩ (fun q9 => ?_)
            refine r_iload_n_3 dX9_odds_98 rfl ?_
            refine r_callSL [] (am_X9_reduced q8.1 q9.1 p3 q9.2) cf_X9_reduced mw_X9_223 (by decide) dX9_odds_99 rfl (Nat.le_of_ble_eq_true rfl) ⟨rfl, rfl⟩ (fun q10 => ?_)
            exact r_xlreturn dX9_odds_102 rfl
          · refine r_sub [] (lv' := []) rfl ?_
            exact r_throw hX rfl dX9_odds_52 dX9_odds_55 dX9_odds_56 dX9_odds_59 (by decide)
        · refine r_sub [] (lv' := []) rfl ?_
          exact w_X9_odds_27 hX q2.2
theorem cf_X9_odds : CFv mi_X9_odds 3 := ⟨iw_X9_odds, vw_X9_odds, nw_X9, cw_X9_odds, by unfold plainF; decide +kernel⟩

abbrev si_X9_telling : SI := (cX9_telling, RX9, 3, (some .int), 6, 81)
def f_X9_telling_27 (d : DD) : Option (Option Int32 × DD) :=
  some (none, d)
set_option maxRecDepth 100000 in
set_option maxHeartbeats 4000000 in
theorem w_X9_telling_27 {E : XE} (hX : XF E []) (d : DD) : AW E si_X9_telling 0 0 (QX E wrI) (f_X9_telling_27 d) 27 [] [] d := by
  unfold f_X9_telling_27
  refine r_sub [] (lv' := []) rfl ?_
  exact r_throw hX rfl dX9_telling_27 dX9_telling_30 dX9_telling_31 dX9_telling_34 (by decide)
def f_X9_telling (p1 : Int32) (p2 : Int32) (d : DD) : Option (Option Int32 × DD) :=
  if p1 < 0 then
  f_X9_telling_27 d
  else
  if p1 < (d.1 12 0) then
    if p2 < 0 then
      f_X9_telling_27 d
      else
      if (2 : Int32) < p2 then
        f_X9_telling_27 d
        else
        if p2 = 0 then
          (f_X9_at 13 p1 d).bind fun q3 =>
            some (some q3.1, q3.2)
          else
          if p2 = (1 : Int32) then
            (f_X9_at 14 p1 d).bind fun q2 =>
              some (some q2.1, q2.2)
            else
            (f_X9_at 15 p1 d).bind fun q1 =>
              some (some q1.1, q1.2)
    else
    f_X9_telling_27 d
set_option maxRecDepth 100000 in
set_option maxHeartbeats 4000000 in
theorem am_X9_telling (p1 : Int32) (p2 : Int32) (d : DD) : AX wrI mi_X9_telling 6 81 [.ref 0, .int p1, .int p2] d (f_X9_telling p1 p2 d) := by
  refine AX_intro (si := si_X9_telling) (lv := [(0, .ref 0), (1, .int p1), (2, .int p2)]) rfl (by decide +kernel) rfl (Nat.le_of_ble_eq_true rfl) (fun E hX => ?_)
  unfold f_X9_telling
  refine r_iload_n_1 dX9_telling_0 rfl ?_
  refine r_if_lt (tgt := 27) dX9_telling_1 (by decide) ?_ ?_
  · refine r_sub [] (lv' := []) rfl ?_
    exact w_X9_telling_27 hX d
  · refine r_iload_n_1 dX9_telling_4 rfl ?_
    refine r_aload_n_0 dX9_telling_5 rfl ?_
    refine r_getr (t := 2) (cc := 9) 3 rfl rfl uX9 (by decide) rfl fw_X9_23 rfl dX9_telling_6 ?_
    refine r_getr (t := 12) (cc := 1) 11 rfl rfl uX1 (by decide) rfl fw_X9_156 rfl dX9_telling_9 ?_
    refine r_geti (cc := 5) 0 rfl rfl uX5 (by decide) rfl fw_X9_174 dX9_telling_12 ?_
    refine r_icmp_ge (tgt := 27) dX9_telling_15 (by decide) ?_ ?_
    · refine r_sub [] (lv' := []) rfl ?_
      exact w_X9_telling_27 hX d
    · refine r_iload_n_2 dX9_telling_18 rfl ?_
      refine r_if_lt (tgt := 27) dX9_telling_19 (by decide) ?_ ?_
      · refine r_sub [] (lv' := []) rfl ?_
        exact w_X9_telling_27 hX d
      · refine r_iload_n_2 dX9_telling_22 rfl ?_
        refine r_iconst dX9_telling_23 ki_2 ?_
        refine r_icmp_le (tgt := 35) dX9_telling_24 (by decide) ?_ ?_
        · refine r_iload_n_2 dX9_telling_35 rfl ?_
          refine r_if_ne (tgt := 54) dX9_telling_36 (by decide) ?_ ?_
          · refine r_iload_n_2 dX9_telling_54 rfl ?_
            refine r_iconst dX9_telling_55 ki_1 ?_
            refine r_icmp_ne (tgt := 76) dX9_telling_56 (by decide) ?_ ?_
            · refine r_aload_n_0 dX9_telling_76 rfl ?_
              refine r_getr (t := 2) (cc := 9) 3 rfl rfl uX9 (by decide) rfl fw_X9_23 rfl dX9_telling_77 ?_
              refine r_getr (t := 12) (cc := 1) 11 rfl rfl uX1 (by decide) rfl fw_X9_156 rfl dX9_telling_80 ?_
              refine r_getr (t := 15) (cc := 5) 3 rfl rfl uX5 (by decide) rfl fw_X9_183 rfl dX9_telling_83 ?_
              refine r_iload_n_1 dX9_telling_86 rfl ?_
              refine r_callSI [] (am_X9_at 15 rfl p1 d) cf_X9_at mw_X9_123 (by decide) dX9_telling_87 rfl (Nat.le_of_ble_eq_true rfl) ⟨rfl, rfl⟩ (fun q1 => ?_)
              exact r_xireturn dX9_telling_90 rfl
            · refine r_aload_n_0 dX9_telling_59 rfl ?_
              refine r_getr (t := 2) (cc := 9) 3 rfl rfl uX9 (by decide) rfl fw_X9_23 rfl dX9_telling_60 ?_
              refine r_getr (t := 12) (cc := 1) 11 rfl rfl uX1 (by decide) rfl fw_X9_156 rfl dX9_telling_63 ?_
              refine r_getr (t := 14) (cc := 5) 2 rfl rfl uX5 (by decide) rfl fw_X9_180 rfl dX9_telling_66 ?_
              refine r_iload_n_1 dX9_telling_69 rfl ?_
              refine r_callSI [] (am_X9_at 14 rfl p1 d) cf_X9_at mw_X9_123 (by decide) dX9_telling_70 rfl (Nat.le_of_ble_eq_true rfl) ⟨rfl, rfl⟩ (fun q2 => ?_)
              refine r_goto (tgt := 90) dX9_telling_73 (by decide) ?_
              exact r_xireturn dX9_telling_90 rfl
          · refine r_aload_n_0 dX9_telling_39 rfl ?_
            refine r_getr (t := 2) (cc := 9) 3 rfl rfl uX9 (by decide) rfl fw_X9_23 rfl dX9_telling_40 ?_
            refine r_getr (t := 12) (cc := 1) 11 rfl rfl uX1 (by decide) rfl fw_X9_156 rfl dX9_telling_43 ?_
            refine r_getr (t := 13) (cc := 5) 1 rfl rfl uX5 (by decide) rfl fw_X9_177 rfl dX9_telling_46 ?_
            refine r_iload_n_1 dX9_telling_49 rfl ?_
            refine r_callSI [] (am_X9_at 13 rfl p1 d) cf_X9_at mw_X9_123 (by decide) dX9_telling_50 rfl (Nat.le_of_ble_eq_true rfl) ⟨rfl, rfl⟩ (fun q3 => ?_)
            exact r_xireturn dX9_telling_53 rfl
        · refine r_sub [] (lv' := []) rfl ?_
          exact w_X9_telling_27 hX d
theorem cf_X9_telling : CFv mi_X9_telling 2 := ⟨iw_X9_telling, vw_X9_telling, nw_X9, cw_X9_telling, by unfold plainF; decide +kernel⟩

theorem lcl_13 : Cond.classLink RL 13 NSE ∈ WS := wmem 1058 (by decide +kernel) rfl
abbrev si_L_kind : SI := (cL_kind, RL, 5, (some .int), 7, 103)
def f_L_kind (p1 p2 : Int32) (d : DD) : Option (Int32 × DD) :=
  (f_X9_kind p1 p2 d).bind fun q => thr q (fun d1 => some ((1 : Int32), d1)) (fun (r : Int32) (d1 : DD) => if ixb (0 : Int32) (ln 110) then bd (u2 d1 110 (0 : Int32).toNatClampNeg r.toInt64) fun d2 => some ((0 : Int32), d2) else none)
theorem ih_L_kind : Cond.codeWith yL_kind cL_kind 5 (some .int) [(0, 10, 13, 13)] ∈ WS := wmem5 9 rfl rfl
set_option maxHeartbeats 4000000 in
set_option maxRecDepth 100000 in
theorem ah_L_kind (p1 p2 : Int32) (d : DD) : AH wrI mi_L_kind [(0, 10, 13, 13)] 7 103 [.ref 0, .int p1, .int p2, .ref 110] d (f_L_kind p1 p2 d) := by
  refine AH_intro (si := si_L_kind) (lv := [(0, .ref 0), (1, .int p1), (2, .int p2), (3, .ref 110)]) rfl (by decide +kernel) rfl (Nat.le_of_ble_eq_true rfl) (fun E hX => ?_)
  unfold f_L_kind
  refine r_aload_n_3 dL_kind_0 rfl ?_
  refine r_iconst dL_kind_1 ki_0 ?_
  refine r_aload_n_0 dL_kind_2 rfl ?_
  refine r_iload_n_1 dL_kind_3 rfl ?_
  refine r_iload_n_2 dL_kind_4 rfl ?_
  refine r_callX (si := si_L_kind) (pc := 5) (wr := wrI) (cc := 9) (s0 := 0) (s1 := 10) (hp := 13) (k0 := 4) [.int 0, .ref 110] hX rfl (am_X9_kind p1 p2 d) rfl rfl cf_X9_kind mw_L_7 (by decide) dL_kind_5 rfl (Nat.le_of_ble_eq_true rfl) (by decide) lcl_13 dL_kind_13 dL_kind_15 dL_kind_16 (by decide) rfl (fun r d1 => ?_)
  refine r_i2l dL_kind_8 ?_
  refine r_lastore rfl dL_kind_9 ?_
  refine r_bd (fun d2 => ?_)
  refine r_goto (tgt := 17) dL_kind_10 (by decide) ?_
  refine r_iconst dL_kind_17 ki_0 ?_
  exact r_ireturn1 dL_kind_18 rfl
abbrev si_L_telling : SI := (cL_telling, RL, 5, (some .int), 7, 103)
def f_L_telling (p1 p2 : Int32) (d : DD) : Option (Int32 × DD) :=
  (f_X9_telling p1 p2 d).bind fun q => thr q (fun d1 => some ((1 : Int32), d1)) (fun (r : Int32) (d1 : DD) => if ixb (0 : Int32) (ln 110) then bd (u2 d1 110 (0 : Int32).toNatClampNeg r.toInt64) fun d2 => some ((0 : Int32), d2) else none)
theorem ih_L_telling : Cond.codeWith yL_telling cL_telling 5 (some .int) [(0, 10, 13, 13)] ∈ WS := wmem5 79 rfl rfl
set_option maxHeartbeats 4000000 in
set_option maxRecDepth 100000 in
theorem ah_L_telling (p1 p2 : Int32) (d : DD) : AH wrI mi_L_telling [(0, 10, 13, 13)] 7 103 [.ref 0, .int p1, .int p2, .ref 110] d (f_L_telling p1 p2 d) := by
  refine AH_intro (si := si_L_telling) (lv := [(0, .ref 0), (1, .int p1), (2, .int p2), (3, .ref 110)]) rfl (by decide +kernel) rfl (Nat.le_of_ble_eq_true rfl) (fun E hX => ?_)
  unfold f_L_telling
  refine r_aload_n_3 dL_telling_0 rfl ?_
  refine r_iconst dL_telling_1 ki_0 ?_
  refine r_aload_n_0 dL_telling_2 rfl ?_
  refine r_iload_n_1 dL_telling_3 rfl ?_
  refine r_iload_n_2 dL_telling_4 rfl ?_
  refine r_callX (si := si_L_telling) (pc := 5) (wr := wrI) (cc := 9) (s0 := 0) (s1 := 10) (hp := 13) (k0 := 4) [.int 0, .ref 110] hX rfl (am_X9_telling p1 p2 d) rfl rfl cf_X9_telling mw_L_15 (by decide) dL_telling_5 rfl (Nat.le_of_ble_eq_true rfl) (by decide) lcl_13 dL_telling_13 dL_telling_15 dL_telling_16 (by decide) rfl (fun r d1 => ?_)
  refine r_i2l dL_telling_8 ?_
  refine r_lastore rfl dL_telling_9 ?_
  refine r_bd (fun d2 => ?_)
  refine r_goto (tgt := 17) dL_telling_10 (by decide) ?_
  refine r_iconst dL_telling_17 ki_0 ?_
  exact r_ireturn1 dL_telling_18 rfl
abbrev si_L_odds : SI := (cL_odds, RL, 6, (some .int), 7, 158)
def f_L_odds (p1 p2 p3 : Int32) (d : DD) : Option (Int32 × DD) :=
  (f_X9_odds p1 p2 p3 d).bind fun q => thr q (fun d1 => some ((1 : Int32), d1)) (fun (r : Int64) (d1 : DD) => if ixb (0 : Int32) (ln 110) then bd (u2 d1 110 (0 : Int32).toNatClampNeg r) fun d2 => some ((0 : Int32), d2) else none)
theorem ih_L_odds : Cond.codeWith yL_odds cL_odds 6 (some .int) [(0, 11, 14, 13)] ∈ WS := wmem5 86 rfl rfl
set_option maxHeartbeats 4000000 in
set_option maxRecDepth 100000 in
theorem ah_L_odds (p1 p2 p3 : Int32) (d : DD) : AH wrI mi_L_odds [(0, 11, 14, 13)] 7 158 [.ref 0, .int p1, .int p2, .int p3, .ref 110] d (f_L_odds p1 p2 p3 d) := by
  refine AH_intro (si := si_L_odds) (lv := [(0, .ref 0), (1, .int p1), (2, .int p2), (3, .int p3), (4, .ref 110)]) rfl (by decide +kernel) rfl (Nat.le_of_ble_eq_true rfl) (fun E hX => ?_)
  unfold f_L_odds
  refine r_aload_w_4 dL_odds_0 ?_
  refine r_iconst dL_odds_2 ki_0 ?_
  refine r_aload_n_0 dL_odds_3 rfl ?_
  refine r_iload_n_1 dL_odds_4 rfl ?_
  refine r_iload_n_2 dL_odds_5 rfl ?_
  refine r_iload_n_3 dL_odds_6 rfl ?_
  refine r_callX (si := si_L_odds) (pc := 7) (wr := wrL) (cc := 9) (s0 := 0) (s1 := 11) (hp := 14) (k0 := 5) [.int 0, .ref 110] hX rfl (am_X9_odds p1 p2 p3 d) rfl rfl cf_X9_odds mw_L_18 (by decide) dL_odds_7 rfl (Nat.le_of_ble_eq_true rfl) (by decide) lcl_13 dL_odds_14 dL_odds_16 dL_odds_17 (by decide) rfl (fun r d1 => ?_)
  refine r_lastore rfl dL_odds_10 ?_
  refine r_bd (fun d2 => ?_)
  refine r_goto (tgt := 18) dL_odds_11 (by decide) ?_
  refine r_iconst dL_odds_18 ki_0 ?_
  exact r_ireturn1 dL_odds_19 rfl
abbrev si_L_bet : SI := (cL_bet, RL, 6, (some .int), 7, 158)
def f_L_bet (p1 p2 p3 : Int32) (d : DD) : Option (Int32 × DD) :=
  (f_X9_bet p1 p2 p3 d).bind fun q => thr q (fun d1 => some ((1 : Int32), d1)) (fun (r : Int64) (d1 : DD) => if ixb (0 : Int32) (ln 110) then bd (u2 d1 110 (0 : Int32).toNatClampNeg r) fun d2 => some ((0 : Int32), d2) else none)
theorem ih_L_bet : Cond.codeWith yL_bet cL_bet 6 (some .int) [(0, 11, 14, 13)] ∈ WS := wmem5 99 rfl rfl
set_option maxHeartbeats 4000000 in
set_option maxRecDepth 100000 in
theorem ah_L_bet (p1 p2 p3 : Int32) (d : DD) : AH wrI mi_L_bet [(0, 11, 14, 13)] 7 158 [.ref 0, .int p1, .int p2, .int p3, .ref 110] d (f_L_bet p1 p2 p3 d) := by
  refine AH_intro (si := si_L_bet) (lv := [(0, .ref 0), (1, .int p1), (2, .int p2), (3, .int p3), (4, .ref 110)]) rfl (by decide +kernel) rfl (Nat.le_of_ble_eq_true rfl) (fun E hX => ?_)
  unfold f_L_bet
  refine r_aload_w_4 dL_bet_0 ?_
  refine r_iconst dL_bet_2 ki_0 ?_
  refine r_aload_n_0 dL_bet_3 rfl ?_
  refine r_iload_n_1 dL_bet_4 rfl ?_
  refine r_iload_n_2 dL_bet_5 rfl ?_
  refine r_iload_n_3 dL_bet_6 rfl ?_
  refine r_callX (si := si_L_bet) (pc := 7) (wr := wrL) (cc := 9) (s0 := 0) (s1 := 11) (hp := 14) (k0 := 5) [.int 0, .ref 110] hX rfl (am_X9_bet p1 p2 p3 d) rfl rfl cf_X9_bet mw_L_22 (by decide) dL_bet_7 rfl (Nat.le_of_ble_eq_true rfl) (by decide) lcl_13 dL_bet_14 dL_bet_16 dL_bet_17 (by decide) rfl (fun r d1 => ?_)
  refine r_lastore rfl dL_bet_10 ?_
  refine r_bd (fun d2 => ?_)
  refine r_goto (tgt := 18) dL_bet_11 (by decide) ?_
  refine r_iconst dL_bet_18 ki_0 ?_
  exact r_ireturn1 dL_bet_19 rfl
