theorem dX5_loadings_4 : decode cX5_loadings 4 = .ok (.iload_n 1, 1) := by decide +kernel
theorem dX5_loadings_5 : decode cX5_loadings 5 = .ok (.invokevirtual 83, 3) := by decide +kernel
theorem dX5_loadings_8 : decode cX5_loadings 8 = .ok (.ifCond .ne 5, 3) := by decide +kernel
theorem dX5_loadings_11 : decode cX5_loadings 11 = .ok (.iconst (-1), 1) := by decide +kernel
theorem dX5_loadings_12 : decode cX5_loadings 12 = .ok (.ireturn, 1) := by decide +kernel
theorem dX5_loadings_13 : decode cX5_loadings 13 = .ok (.aload_n 0, 1) := by decide +kernel
theorem dX5_loadings_14 : decode cX5_loadings 14 = .ok (.getfield 31, 3) := by decide +kernel
theorem dX5_loadings_17 : decode cX5_loadings 17 = .ok (.aload_n 0, 1) := by decide +kernel
theorem dX5_loadings_18 : decode cX5_loadings 18 = .ok (.getfield 14, 3) := by decide +kernel
theorem dX5_loadings_21 : decode cX5_loadings 21 = .ok (.iload_n 1, 1) := by decide +kernel
theorem dX5_loadings_22 : decode cX5_loadings 22 = .ok (.invokevirtual 183, 3) := by decide +kernel
theorem dX5_loadings_25 : decode cX5_loadings 25 = .ok (.istore_n 2, 1) := by decide +kernel
theorem dX5_loadings_26 : decode cX5_loadings 26 = .ok (.iconst 0, 1) := by decide +kernel
theorem dX5_loadings_27 : decode cX5_loadings 27 = .ok (.istore_n 3, 1) := by decide +kernel
theorem dX5_loadings_28 : decode cX5_loadings 28 = .ok (.iconst 0, 1) := by decide +kernel
theorem dX5_loadings_29 : decode cX5_loadings 29 = .ok (.istore 4, 2) := by decide +kernel
theorem dX5_loadings_31 : decode cX5_loadings 31 = .ok (.iload 4, 2) := by decide +kernel
theorem dX5_loadings_33 : decode cX5_loadings 33 = .ok (.bipush 9, 2) := by decide +kernel
theorem dX5_loadings_35 : decode cX5_loadings 35 = .ok (.if_icmp .gt 39, 3) := by decide +kernel
theorem dX5_loadings_38 : decode cX5_loadings 38 = .ok (.iload_n 2, 1) := by decide +kernel
theorem dX5_loadings_39 : decode cX5_loadings 39 = .ok (.iconst (-1), 1) := by decide +kernel
theorem dX5_loadings_40 : decode cX5_loadings 40 = .ok (.if_icmp .eq 21, 3) := by decide +kernel
theorem dX5_loadings_43 : decode cX5_loadings 43 = .ok (.iload_n 2, 1) := by decide +kernel
theorem dX5_loadings_44 : decode cX5_loadings 44 = .ok (.aload_n 0, 1) := by decide +kernel
theorem dX5_loadings_45 : decode cX5_loadings 45 = .ok (.getfield 14, 3) := by decide +kernel
theorem dX5_loadings_48 : decode cX5_loadings 48 = .ok (.getfield 86, 3) := by decide +kernel
theorem dX5_loadings_51 : decode cX5_loadings 51 = .ok (.iload_n 1, 1) := by decide +kernel
theorem dX5_loadings_52 : decode cX5_loadings 52 = .ok (.iaload, 1) := by decide +kernel
theorem dX5_loadings_53 : decode cX5_loadings 53 = .ok (.iload 4, 2) := by decide +kernel
theorem dX5_loadings_55 : decode cX5_loadings 55 = .ok (.invokestatic 187, 3) := by decide +kernel
theorem dX5_loadings_58 : decode cX5_loadings 58 = .ok (.if_icmp .ne 10, 3) := by decide +kernel
theorem dX5_loadings_61 : decode cX5_loadings 61 = .ok (.iload_n 3, 1) := by decide +kernel
theorem dX5_loadings_62 : decode cX5_loadings 62 = .ok (.iconst 1, 1) := by decide +kernel
theorem dX5_loadings_63 : decode cX5_loadings 63 = .ok (.iload 4, 2) := by decide +kernel
theorem dX5_loadings_65 : decode cX5_loadings 65 = .ok (.ishl, 1) := by decide +kernel
theorem dX5_loadings_66 : decode cX5_loadings 66 = .ok (.ior, 1) := by decide +kernel
theorem dX5_loadings_67 : decode cX5_loadings 67 = .ok (.istore_n 3, 1) := by decide +kernel
theorem dX5_loadings_68 : decode cX5_loadings 68 = .ok (.iinc 4 1, 3) := by decide +kernel
theorem dX5_loadings_71 : decode cX5_loadings 71 = .ok (.goto (-40), 3) := by decide +kernel
theorem dX5_loadings_74 : decode cX5_loadings 74 = .ok (.iload_n 3, 1) := by decide +kernel
theorem dX5_loadings_75 : decode cX5_loadings 75 = .ok (.ireturn, 1) := by decide +kernel
theorem dX5_kinds_0 : decode cX5_kinds 0 = .ok (.aload_n 0, 1) := by decide +kernel
theorem dX5_kinds_1 : decode cX5_kinds 1 = .ok (.getfield 14, 3) := by decide +kernel
theorem dX5_kinds_4 : decode cX5_kinds 4 = .ok (.iload_n 1, 1) := by decide +kernel
theorem dX5_kinds_5 : decode cX5_kinds 5 = .ok (.invokevirtual 83, 3) := by decide +kernel
theorem dX5_kinds_8 : decode cX5_kinds 8 = .ok (.ifCond .ne 5, 3) := by decide +kernel
theorem dX5_kinds_11 : decode cX5_kinds 11 = .ok (.iconst (-1), 1) := by decide +kernel
theorem dX5_kinds_12 : decode cX5_kinds 12 = .ok (.ireturn, 1) := by decide +kernel
theorem dX5_kinds_13 : decode cX5_kinds 13 = .ok (.aload_n 0, 1) := by decide +kernel
theorem dX5_kinds_14 : decode cX5_kinds 14 = .ok (.getfield 31, 3) := by decide +kernel
theorem dX5_kinds_17 : decode cX5_kinds 17 = .ok (.aload_n 0, 1) := by decide +kernel
theorem dX5_kinds_18 : decode cX5_kinds 18 = .ok (.getfield 14, 3) := by decide +kernel
theorem dX5_kinds_21 : decode cX5_kinds 21 = .ok (.iload_n 1, 1) := by decide +kernel
theorem dX5_kinds_22 : decode cX5_kinds 22 = .ok (.invokevirtual 183, 3) := by decide +kernel
theorem dX5_kinds_25 : decode cX5_kinds 25 = .ok (.istore_n 2, 1) := by decide +kernel
theorem dX5_kinds_26 : decode cX5_kinds 26 = .ok (.iconst 0, 1) := by decide +kernel
theorem dX5_kinds_27 : decode cX5_kinds 27 = .ok (.istore_n 3, 1) := by decide +kernel
theorem dX5_kinds_28 : decode cX5_kinds 28 = .ok (.iconst 0, 1) := by decide +kernel
theorem dX5_kinds_29 : decode cX5_kinds 29 = .ok (.istore 4, 2) := by decide +kernel
theorem dX5_kinds_31 : decode cX5_kinds 31 = .ok (.iload 4, 2) := by decide +kernel
theorem dX5_kinds_33 : decode cX5_kinds 33 = .ok (.iconst 2, 1) := by decide +kernel
theorem dX5_kinds_34 : decode cX5_kinds 34 = .ok (.if_icmp .gt 39, 3) := by decide +kernel
theorem dX5_kinds_37 : decode cX5_kinds 37 = .ok (.iload_n 2, 1) := by decide +kernel
theorem dX5_kinds_38 : decode cX5_kinds 38 = .ok (.iconst (-1), 1) := by decide +kernel
theorem dX5_kinds_39 : decode cX5_kinds 39 = .ok (.if_icmp .eq 21, 3) := by decide +kernel
theorem dX5_kinds_42 : decode cX5_kinds 42 = .ok (.iload_n 2, 1) := by decide +kernel
theorem dX5_kinds_43 : decode cX5_kinds 43 = .ok (.iload 4, 2) := by decide +kernel
theorem dX5_kinds_45 : decode cX5_kinds 45 = .ok (.aload_n 0, 1) := by decide +kernel
theorem dX5_kinds_46 : decode cX5_kinds 46 = .ok (.getfield 14, 3) := by decide +kernel
theorem dX5_kinds_49 : decode cX5_kinds 49 = .ok (.getfield 90, 3) := by decide +kernel
theorem dX5_kinds_52 : decode cX5_kinds 52 = .ok (.iload_n 1, 1) := by decide +kernel
theorem dX5_kinds_53 : decode cX5_kinds 53 = .ok (.iaload, 1) := by decide +kernel
theorem dX5_kinds_54 : decode cX5_kinds 54 = .ok (.invokestatic 187, 3) := by decide +kernel
theorem dX5_kinds_57 : decode cX5_kinds 57 = .ok (.if_icmp .ne 10, 3) := by decide +kernel
theorem dX5_kinds_60 : decode cX5_kinds 60 = .ok (.iload_n 3, 1) := by decide +kernel
theorem dX5_kinds_61 : decode cX5_kinds 61 = .ok (.iconst 1, 1) := by decide +kernel
theorem dX5_kinds_62 : decode cX5_kinds 62 = .ok (.iload 4, 2) := by decide +kernel
theorem dX5_kinds_64 : decode cX5_kinds 64 = .ok (.ishl, 1) := by decide +kernel
theorem dX5_kinds_65 : decode cX5_kinds 65 = .ok (.ior, 1) := by decide +kernel
theorem dX5_kinds_66 : decode cX5_kinds 66 = .ok (.istore_n 3, 1) := by decide +kernel
theorem dX5_kinds_67 : decode cX5_kinds 67 = .ok (.iinc 4 1, 3) := by decide +kernel
theorem dX5_kinds_70 : decode cX5_kinds 70 = .ok (.goto (-39), 3) := by decide +kernel
theorem dX5_kinds_73 : decode cX5_kinds 73 = .ok (.iload_n 3, 1) := by decide +kernel
theorem dX5_kinds_74 : decode cX5_kinds 74 = .ok (.ireturn, 1) := by decide +kernel
theorem dX5_odds_0 : decode cX5_odds 0 = .ok (.iload_n 1, 1) := by decide +kernel
theorem dX5_odds_1 : decode cX5_odds 1 = .ok (.ifCond .lt 28, 3) := by decide +kernel
theorem dX5_odds_4 : decode cX5_odds 4 = .ok (.iload_n 1, 1) := by decide +kernel
theorem dX5_odds_5 : decode cX5_odds 5 = .ok (.bipush 8, 2) := by decide +kernel
theorem dX5_odds_7 : decode cX5_odds 7 = .ok (.if_icmp .ge 22, 3) := by decide +kernel
theorem dX5_odds_10 : decode cX5_odds 10 = .ok (.iload_n 2, 1) := by decide +kernel
theorem dX5_odds_11 : decode cX5_odds 11 = .ok (.ifCond .lt 18, 3) := by decide +kernel
theorem dX5_odds_14 : decode cX5_odds 14 = .ok (.iload_n 2, 1) := by decide +kernel
theorem dX5_odds_15 : decode cX5_odds 15 = .ok (.iconst 1, 1) := by decide +kernel
theorem dX5_odds_16 : decode cX5_odds 16 = .ok (.if_icmp .gt 13, 3) := by decide +kernel
theorem dX5_odds_19 : decode cX5_odds 19 = .ok (.aload_n 0, 1) := by decide +kernel
theorem dX5_odds_20 : decode cX5_odds 20 = .ok (.getfield 14, 3) := by decide +kernel
theorem dX5_odds_23 : decode cX5_odds 23 = .ok (.getfield 80, 3) := by decide +kernel
theorem dX5_odds_26 : decode cX5_odds 26 = .ok (.ifCond .ne 7, 3) := by decide +kernel
theorem dX5_odds_29 : decode cX5_odds 29 = .ok (.ldc2_w 190, 3) := by decide +kernel
theorem dX5_odds_32 : decode cX5_odds 32 = .ok (.lreturn, 1) := by decide +kernel
theorem dX5_odds_33 : decode cX5_odds 33 = .ok (.aload_n 0, 1) := by decide +kernel
theorem dX5_odds_34 : decode cX5_odds 34 = .ok (.getfield 14, 3) := by decide +kernel
theorem dX5_odds_37 : decode cX5_odds 37 = .ok (.iload_n 1, 1) := by decide +kernel
theorem dX5_odds_38 : decode cX5_odds 38 = .ok (.invokevirtual 192, 3) := by decide +kernel
theorem dX5_odds_41 : decode cX5_odds 41 = .ok (.istore_n 3, 1) := by decide +kernel
theorem dX5_odds_42 : decode cX5_odds 42 = .ok (.aload_n 0, 1) := by decide +kernel
theorem dX5_odds_43 : decode cX5_odds 43 = .ok (.getfield 14, 3) := by decide +kernel
theorem dX5_odds_46 : decode cX5_odds 46 = .ok (.getfield 80, 3) := by decide +kernel
theorem dX5_odds_49 : decode cX5_odds 49 = .ok (.aload_n 0, 1) := by decide +kernel
theorem dX5_odds_50 : decode cX5_odds 50 = .ok (.getfield 14, 3) := by decide +kernel
theorem dX5_odds_53 : decode cX5_odds 53 = .ok (.getfield 80, 3) := by decide +kernel
theorem dX5_odds_56 : decode cX5_odds 56 = .ok (.iconst 1, 1) := by decide +kernel
theorem dX5_odds_57 : decode cX5_odds 57 = .ok (.isub, 1) := by decide +kernel
theorem dX5_odds_58 : decode cX5_odds 58 = .ok (.imul, 1) := by decide +kernel
theorem dX5_odds_59 : decode cX5_odds 59 = .ok (.iconst 2, 1) := by decide +kernel
theorem dX5_odds_60 : decode cX5_odds 60 = .ok (.idiv, 1) := by decide +kernel
theorem dX5_odds_61 : decode cX5_odds 61 = .ok (.istore 4, 2) := by decide +kernel
theorem dX5_odds_63 : decode cX5_odds 63 = .ok (.iload_n 2, 1) := by decide +kernel
theorem dX5_odds_64 : decode cX5_odds 64 = .ok (.ifCond .ne 7, 3) := by decide +kernel
theorem dX5_odds_67 : decode cX5_odds 67 = .ok (.iload_n 3, 1) := by decide +kernel
theorem dX5_odds_68 : decode cX5_odds 68 = .ok (.goto 5, 3) := by decide +kernel
theorem dX5_odds_71 : decode cX5_odds 71 = .ok (.iload 4, 2) := by decide +kernel
theorem dX5_odds_73 : decode cX5_odds 73 = .ok (.istore 5, 2) := by decide +kernel
theorem dX5_odds_75 : decode cX5_odds 75 = .ok (.iload 4, 2) := by decide +kernel
theorem dX5_odds_77 : decode cX5_odds 77 = .ok (.istore 6, 2) := by decide +kernel
theorem dX5_odds_79 : decode cX5_odds 79 = .ok (.iload 6, 2) := by decide +kernel
theorem dX5_odds_81 : decode cX5_odds 81 = .ok (.iconst 1, 1) := by decide +kernel
theorem dX5_odds_82 : decode cX5_odds 82 = .ok (.if_icmp .le 31, 3) := by decide +kernel
theorem dX5_odds_85 : decode cX5_odds 85 = .ok (.iload_n 3, 1) := by decide +kernel
theorem dX5_odds_86 : decode cX5_odds 86 = .ok (.iload 6, 2) := by decide +kernel
theorem dX5_odds_88 : decode cX5_odds 88 = .ok (.irem, 1) := by decide +kernel
theorem dX5_odds_89 : decode cX5_odds 89 = .ok (.ifCond .ne 18, 3) := by decide +kernel
theorem dX5_odds_92 : decode cX5_odds 92 = .ok (.iload 4, 2) := by decide +kernel
theorem dX5_odds_94 : decode cX5_odds 94 = .ok (.iload 6, 2) := by decide +kernel
theorem dX5_odds_96 : decode cX5_odds 96 = .ok (.irem, 1) := by decide +kernel
theorem dX5_odds_97 : decode cX5_odds 97 = .ok (.ifCond .ne 10, 3) := by decide +kernel
theorem dX5_odds_100 : decode cX5_odds 100 = .ok (.iload 5, 2) := by decide +kernel
theorem dX5_odds_102 : decode cX5_odds 102 = .ok (.iload 6, 2) := by decide +kernel
theorem dX5_odds_104 : decode cX5_odds 104 = .ok (.idiv, 1) := by decide +kernel
theorem dX5_odds_105 : decode cX5_odds 105 = .ok (.i2l, 1) := by decide +kernel
theorem dX5_odds_106 : decode cX5_odds 106 = .ok (.lreturn, 1) := by decide +kernel
theorem dX5_odds_107 : decode cX5_odds 107 = .ok (.iinc 6 (-1), 3) := by decide +kernel
theorem dX5_odds_110 : decode cX5_odds 110 = .ok (.goto (-31), 3) := by decide +kernel
theorem dX5_odds_113 : decode cX5_odds 113 = .ok (.iload 5, 2) := by decide +kernel
theorem dX5_odds_115 : decode cX5_odds 115 = .ok (.i2l, 1) := by decide +kernel
theorem dX5_odds_116 : decode cX5_odds 116 = .ok (.lreturn, 1) := by decide +kernel
theorem dX5_sheet_0 : decode cX5_sheet 0 = .ok (.aload_n 0, 1) := by decide +kernel
theorem dX5_sheet_1 : decode cX5_sheet 1 = .ok (.iconst 0, 1) := by decide +kernel
theorem dX5_sheet_2 : decode cX5_sheet 2 = .ok (.putfield 42, 3) := by decide +kernel
theorem dX5_sheet_5 : decode cX5_sheet 5 = .ok (.iload_n 1, 1) := by decide +kernel
theorem dX5_sheet_6 : decode cX5_sheet 6 = .ok (.invokestatic 46, 3) := by decide +kernel
theorem dX5_sheet_9 : decode cX5_sheet 9 = .ok (.ifCond .ne 5, 3) := by decide +kernel
theorem dX5_sheet_12 : decode cX5_sheet 12 = .ok (.iconst (-1), 1) := by decide +kernel
theorem dX5_sheet_13 : decode cX5_sheet 13 = .ok (.ireturn, 1) := by decide +kernel
theorem dX5_sheet_14 : decode cX5_sheet 14 = .ok (.iload_n 2, 1) := by decide +kernel
theorem dX5_sheet_15 : decode cX5_sheet 15 = .ok (.invokestatic 50, 3) := by decide +kernel
theorem dX5_sheet_18 : decode cX5_sheet 18 = .ok (.ifCond .eq 9, 3) := by decide +kernel
theorem dX5_sheet_21 : decode cX5_sheet 21 = .ok (.iload_n 3, 1) := by decide +kernel
theorem dX5_sheet_22 : decode cX5_sheet 22 = .ok (.bipush 60, 2) := by decide +kernel
theorem dX5_sheet_24 : decode cX5_sheet 24 = .ok (.if_icmp .le 6, 3) := by decide +kernel
theorem dX5_sheet_27 : decode cX5_sheet 27 = .ok (.bipush (-2), 2) := by decide +kernel
theorem dX5_sheet_29 : decode cX5_sheet 29 = .ok (.ireturn, 1) := by decide +kernel
theorem dX5_sheet_30 : decode cX5_sheet 30 = .ok (.iload_n 3, 1) := by decide +kernel
theorem dX5_sheet_31 : decode cX5_sheet 31 = .ok (.ifCond .ge 9, 3) := by decide +kernel
theorem dX5_sheet_34 : decode cX5_sheet 34 = .ok (.aload_n 0, 1) := by decide +kernel
theorem dX5_sheet_35 : decode cX5_sheet 35 = .ok (.iconst 4, 1) := by decide +kernel
theorem dX5_sheet_36 : decode cX5_sheet 36 = .ok (.invokevirtual 61, 3) := by decide +kernel
theorem dX5_sheet_39 : decode cX5_sheet 39 = .ok (.ireturn, 1) := by decide +kernel
theorem dX5_sheet_40 : decode cX5_sheet 40 = .ok (.aload_n 0, 1) := by decide +kernel
theorem dX5_sheet_41 : decode cX5_sheet 41 = .ok (.getfield 37, 3) := by decide +kernel
theorem dX5_sheet_44 : decode cX5_sheet 44 = .ok (.iload_n 1, 1) := by decide +kernel
theorem dX5_sheet_45 : decode cX5_sheet 45 = .ok (.aaload, 1) := by decide +kernel
theorem dX5_sheet_46 : decode cX5_sheet 46 = .ok (.iload_n 2, 1) := by decide +kernel
theorem dX5_sheet_47 : decode cX5_sheet 47 = .ok (.iload_n 3, 1) := by decide +kernel
theorem dX5_sheet_48 : decode cX5_sheet 48 = .ok (.invokevirtual 195, 3) := by decide +kernel
theorem dX5_sheet_51 : decode cX5_sheet 51 = .ok (.iconst 1, 1) := by decide +kernel
theorem dX5_sheet_52 : decode cX5_sheet 52 = .ok (.ireturn, 1) := by decide +kernel
theorem dX5_lose_0 : decode cX5_lose 0 = .ok (.iload_n 1, 1) := by decide +kernel
theorem dX5_lose_1 : decode cX5_lose 1 = .ok (.invokestatic 46, 3) := by decide +kernel
theorem dX5_lose_4 : decode cX5_lose 4 = .ok (.ifCond .ne 5, 3) := by decide +kernel
theorem dX5_lose_7 : decode cX5_lose 7 = .ok (.iconst (-1), 1) := by decide +kernel
theorem dX5_lose_8 : decode cX5_lose 8 = .ok (.ireturn, 1) := by decide +kernel
theorem dX5_lose_9 : decode cX5_lose 9 = .ok (.aload_n 0, 1) := by decide +kernel
theorem dX5_lose_10 : decode cX5_lose 10 = .ok (.getfield 37, 3) := by decide +kernel
theorem dX5_lose_13 : decode cX5_lose 13 = .ok (.iload_n 1, 1) := by decide +kernel
theorem dX5_lose_14 : decode cX5_lose 14 = .ok (.aaload, 1) := by decide +kernel
theorem dX5_lose_15 : decode cX5_lose 15 = .ok (.getfield 199, 3) := by decide +kernel
theorem dX5_lose_18 : decode cX5_lose 18 = .ok (.iconst (-1), 1) := by decide +kernel
theorem dX5_lose_19 : decode cX5_lose 19 = .ok (.if_icmp .ne 5, 3) := by decide +kernel
theorem dX5_lose_22 : decode cX5_lose 22 = .ok (.iconst 0, 1) := by decide +kernel
theorem dX5_lose_23 : decode cX5_lose 23 = .ok (.ireturn, 1) := by decide +kernel
theorem dX5_lose_24 : decode cX5_lose 24 = .ok (.aload_n 0, 1) := by decide +kernel
theorem dX5_lose_25 : decode cX5_lose 25 = .ok (.getfield 37, 3) := by decide +kernel
theorem dX5_lose_28 : decode cX5_lose 28 = .ok (.iload_n 1, 1) := by decide +kernel
theorem dX5_lose_29 : decode cX5_lose 29 = .ok (.aaload, 1) := by decide +kernel
theorem dX5_lose_30 : decode cX5_lose 30 = .ok (.iconst (-1), 1) := by decide +kernel
theorem dX5_lose_31 : decode cX5_lose 31 = .ok (.iconst 0, 1) := by decide +kernel
theorem dX5_lose_32 : decode cX5_lose 32 = .ok (.invokevirtual 195, 3) := by decide +kernel
theorem dX5_lose_35 : decode cX5_lose 35 = .ok (.iconst 1, 1) := by decide +kernel
theorem dX5_lose_36 : decode cX5_lose 36 = .ok (.ireturn, 1) := by decide +kernel
theorem dX5_put_0 : decode cX5_put 0 = .ok (.aload_n 0, 1) := by decide +kernel
theorem dX5_put_1 : decode cX5_put 1 = .ok (.iconst 0, 1) := by decide +kernel
theorem dX5_put_2 : decode cX5_put 2 = .ok (.putfield 42, 3) := by decide +kernel
theorem dX5_put_5 : decode cX5_put 5 = .ok (.iload_n 1, 1) := by decide +kernel
theorem dX5_put_6 : decode cX5_put 6 = .ok (.invokestatic 46, 3) := by decide +kernel
theorem dX5_put_9 : decode cX5_put 9 = .ok (.ifCond .ne 5, 3) := by decide +kernel
theorem dX5_put_12 : decode cX5_put 12 = .ok (.iconst (-1), 1) := by decide +kernel
theorem dX5_put_13 : decode cX5_put 13 = .ok (.ireturn, 1) := by decide +kernel
theorem dX5_put_14 : decode cX5_put 14 = .ok (.aload_n 0, 1) := by decide +kernel
theorem dX5_put_15 : decode cX5_put 15 = .ok (.getfield 37, 3) := by decide +kernel
theorem dX5_put_18 : decode cX5_put 18 = .ok (.iload_n 1, 1) := by decide +kernel
theorem dX5_put_19 : decode cX5_put 19 = .ok (.aaload, 1) := by decide +kernel
theorem dX5_put_20 : decode cX5_put 20 = .ok (.astore 4, 2) := by decide +kernel
theorem dX5_put_22 : decode cX5_put 22 = .ok (.aload 4, 2) := by decide +kernel
theorem dX5_put_24 : decode cX5_put 24 = .ok (.getfield 199, 3) := by decide +kernel
theorem dX5_put_27 : decode cX5_put 27 = .ok (.iconst (-1), 1) := by decide +kernel
theorem dX5_put_28 : decode cX5_put 28 = .ok (.if_icmp .ne 9, 3) := by decide +kernel
theorem dX5_put_31 : decode cX5_put 31 = .ok (.aload_n 0, 1) := by decide +kernel
theorem dX5_put_32 : decode cX5_put 32 = .ok (.iconst 1, 1) := by decide +kernel
theorem dX5_put_33 : decode cX5_put 33 = .ok (.invokevirtual 61, 3) := by decide +kernel
theorem dX5_put_36 : decode cX5_put 36 = .ok (.ireturn, 1) := by decide +kernel
theorem dX5_put_37 : decode cX5_put 37 = .ok (.aload 4, 2) := by decide +kernel
theorem dX5_put_39 : decode cX5_put 39 = .ok (.iload_n 2, 1) := by decide +kernel
theorem dX5_put_40 : decode cX5_put 40 = .ok (.iconst 1, 1) := by decide +kernel
theorem dX5_put_41 : decode cX5_put 41 = .ok (.invokevirtual 57, 3) := by decide +kernel
theorem dX5_put_44 : decode cX5_put 44 = .ok (.ifCond .ne 9, 3) := by decide +kernel
theorem dX5_put_47 : decode cX5_put 47 = .ok (.aload_n 0, 1) := by decide +kernel
theorem dX5_put_48 : decode cX5_put 48 = .ok (.iconst 3, 1) := by decide +kernel
theorem dX5_put_49 : decode cX5_put 49 = .ok (.invokevirtual 61, 3) := by decide +kernel
theorem dX5_put_52 : decode cX5_put 52 = .ok (.ireturn, 1) := by decide +kernel
theorem dX5_put_53 : decode cX5_put 53 = .ok (.aload 4, 2) := by decide +kernel
theorem dX5_put_55 : decode cX5_put 55 = .ok (.getfield 202, 3) := by decide +kernel
theorem dX5_put_58 : decode cX5_put 58 = .ok (.iload_n 2, 1) := by decide +kernel
theorem dX5_put_59 : decode cX5_put 59 = .ok (.aload 4, 2) := by decide +kernel
theorem dX5_put_61 : decode cX5_put 61 = .ok (.iload_n 3, 1) := by decide +kernel
theorem dX5_put_62 : decode cX5_put 62 = .ok (.invokevirtual 205, 3) := by decide +kernel
theorem dX5_put_65 : decode cX5_put 65 = .ok (.iastore, 1) := by decide +kernel
theorem dX5_put_66 : decode cX5_put 66 = .ok (.iconst 1, 1) := by decide +kernel
theorem dX5_put_67 : decode cX5_put 67 = .ok (.ireturn, 1) := by decide +kernel
theorem dX5_cell_0 : decode cX5_cell 0 = .ok (.aload_n 0, 1) := by decide +kernel
theorem dX5_cell_1 : decode cX5_cell 1 = .ok (.iconst 0, 1) := by decide +kernel
theorem dX5_cell_2 : decode cX5_cell 2 = .ok (.putfield 42, 3) := by decide +kernel
theorem dX5_cell_5 : decode cX5_cell 5 = .ok (.iload_n 1, 1) := by decide +kernel
theorem dX5_cell_6 : decode cX5_cell 6 = .ok (.invokestatic 46, 3) := by decide +kernel
theorem dX5_cell_9 : decode cX5_cell 9 = .ok (.ifCond .eq 10, 3) := by decide +kernel
theorem dX5_cell_12 : decode cX5_cell 12 = .ok (.iload_n 3, 1) := by decide +kernel
theorem dX5_cell_13 : decode cX5_cell 13 = .ok (.invokestatic 50, 3) := by decide +kernel
theorem dX5_cell_16 : decode cX5_cell 16 = .ok (.ifCond .ne 7, 3) := by decide +kernel
theorem dX5_cell_19 : decode cX5_cell 19 = .ok (.ldc2_w 190, 3) := by decide +kernel
theorem dX5_cell_22 : decode cX5_cell 22 = .ok (.lreturn, 1) := by decide +kernel
theorem dX5_cell_23 : decode cX5_cell 23 = .ok (.aload_n 0, 1) := by decide +kernel
theorem dX5_cell_24 : decode cX5_cell 24 = .ok (.getfield 37, 3) := by decide +kernel
theorem dX5_cell_27 : decode cX5_cell 27 = .ok (.iload_n 1, 1) := by decide +kernel
theorem dX5_cell_28 : decode cX5_cell 28 = .ok (.aaload, 1) := by decide +kernel
theorem dX5_cell_29 : decode cX5_cell 29 = .ok (.astore 4, 2) := by decide +kernel
theorem dX5_cell_31 : decode cX5_cell 31 = .ok (.aload_n 0, 1) := by decide +kernel
theorem dX5_cell_32 : decode cX5_cell 32 = .ok (.aload 4, 2) := by decide +kernel
theorem dX5_cell_34 : decode cX5_cell 34 = .ok (.iload_n 3, 1) := by decide +kernel
theorem dX5_cell_35 : decode cX5_cell 35 = .ok (.invokevirtual 53, 3) := by decide +kernel
theorem dX5_cell_38 : decode cX5_cell 38 = .ok (.putfield 42, 3) := by decide +kernel
theorem dX5_cell_41 : decode cX5_cell 41 = .ok (.aload_n 0, 1) := by decide +kernel
theorem dX5_cell_42 : decode cX5_cell 42 = .ok (.getfield 42, 3) := by decide +kernel
theorem dX5_cell_45 : decode cX5_cell 45 = .ok (.ifCond .ne 18, 3) := by decide +kernel
theorem dX5_cell_48 : decode cX5_cell 48 = .ok (.aload 4, 2) := by decide +kernel
theorem dX5_cell_50 : decode cX5_cell 50 = .ok (.iload_n 2, 1) := by decide +kernel
theorem dX5_cell_51 : decode cX5_cell 51 = .ok (.iconst 1, 1) := by decide +kernel
theorem dX5_cell_52 : decode cX5_cell 52 = .ok (.invokevirtual 57, 3) := by decide +kernel
theorem dX5_cell_55 : decode cX5_cell 55 = .ok (.ifCond .ne 8, 3) := by decide +kernel
theorem dX5_cell_58 : decode cX5_cell 58 = .ok (.aload_n 0, 1) := by decide +kernel
theorem dX5_cell_59 : decode cX5_cell 59 = .ok (.iconst 3, 1) := by decide +kernel
theorem dX5_cell_60 : decode cX5_cell 60 = .ok (.putfield 42, 3) := by decide +kernel
theorem dX5_cell_63 : decode cX5_cell 63 = .ok (.aload_n 0, 1) := by decide +kernel
theorem dX5_cell_64 : decode cX5_cell 64 = .ok (.getfield 42, 3) := by decide +kernel
theorem dX5_cell_67 : decode cX5_cell 67 = .ok (.ifCond .ne 13, 3) := by decide +kernel
theorem dX5_cell_70 : decode cX5_cell 70 = .ok (.aload 4, 2) := by decide +kernel
theorem dX5_cell_72 : decode cX5_cell 72 = .ok (.iload_n 2, 1) := by decide +kernel
theorem dX5_cell_73 : decode cX5_cell 73 = .ok (.invokevirtual 132, 3) := by decide +kernel
theorem dX5_cell_76 : decode cX5_cell 76 = .ok (.i2l, 1) := by decide +kernel
theorem dX5_cell_77 : decode cX5_cell 77 = .ok (.goto 6, 3) := by decide +kernel
theorem dX5_cell_80 : decode cX5_cell 80 = .ok (.ldc2_w 190, 3) := by decide +kernel
theorem dX5_cell_83 : decode cX5_cell 83 = .ok (.lreturn, 1) := by decide +kernel
theorem dX5_copy_0 : decode cX5_copy 0 = .ok (.aload_n 0, 1) := by decide +kernel
theorem dX5_copy_1 : decode cX5_copy 1 = .ok (.iconst 0, 1) := by decide +kernel
theorem dX5_copy_2 : decode cX5_copy 2 = .ok (.putfield 42, 3) := by decide +kernel
theorem dX5_copy_5 : decode cX5_copy 5 = .ok (.iload_n 1, 1) := by decide +kernel
theorem dX5_copy_6 : decode cX5_copy 6 = .ok (.invokestatic 46, 3) := by decide +kernel
theorem dX5_copy_9 : decode cX5_copy 9 = .ok (.ifCond .eq 10, 3) := by decide +kernel
theorem dX5_copy_12 : decode cX5_copy 12 = .ok (.iload_n 3, 1) := by decide +kernel
theorem dX5_copy_13 : decode cX5_copy 13 = .ok (.invokestatic 46, 3) := by decide +kernel
theorem dX5_copy_16 : decode cX5_copy 16 = .ok (.ifCond .ne 5, 3) := by decide +kernel
theorem dX5_copy_19 : decode cX5_copy 19 = .ok (.iconst (-1), 1) := by decide +kernel
theorem dX5_copy_20 : decode cX5_copy 20 = .ok (.ireturn, 1) := by decide +kernel
theorem dX5_copy_21 : decode cX5_copy 21 = .ok (.aload_n 0, 1) := by decide +kernel
theorem dX5_copy_22 : decode cX5_copy 22 = .ok (.getfield 37, 3) := by decide +kernel
theorem dX5_copy_25 : decode cX5_copy 25 = .ok (.iload_n 1, 1) := by decide +kernel
theorem dX5_copy_26 : decode cX5_copy 26 = .ok (.aaload, 1) := by decide +kernel
theorem dX5_copy_27 : decode cX5_copy 27 = .ok (.astore 6, 2) := by decide +kernel
theorem dX5_copy_29 : decode cX5_copy 29 = .ok (.aload_n 0, 1) := by decide +kernel
theorem dX5_copy_30 : decode cX5_copy 30 = .ok (.getfield 37, 3) := by decide +kernel
theorem dX5_copy_33 : decode cX5_copy 33 = .ok (.iload_n 3, 1) := by decide +kernel
theorem dX5_copy_34 : decode cX5_copy 34 = .ok (.aaload, 1) := by decide +kernel
theorem dX5_copy_35 : decode cX5_copy 35 = .ok (.astore 7, 2) := by decide +kernel
theorem dX5_copy_37 : decode cX5_copy 37 = .ok (.aload 6, 2) := by decide +kernel
theorem dX5_copy_39 : decode cX5_copy 39 = .ok (.getfield 199, 3) := by decide +kernel
theorem dX5_copy_42 : decode cX5_copy 42 = .ok (.iconst (-1), 1) := by decide +kernel
theorem dX5_copy_43 : decode cX5_copy 43 = .ok (.if_icmp .eq 12, 3) := by decide +kernel
theorem dX5_copy_46 : decode cX5_copy 46 = .ok (.aload 7, 2) := by decide +kernel
theorem dX5_copy_48 : decode cX5_copy 48 = .ok (.getfield 199, 3) := by decide +kernel
theorem dX5_copy_51 : decode cX5_copy 51 = .ok (.iconst (-1), 1) := by decide +kernel
theorem dX5_copy_52 : decode cX5_copy 52 = .ok (.if_icmp .ne 9, 3) := by decide +kernel
theorem dX5_copy_55 : decode cX5_copy 55 = .ok (.aload_n 0, 1) := by decide +kernel
theorem dX5_copy_56 : decode cX5_copy 56 = .ok (.iconst 1, 1) := by decide +kernel
theorem dX5_copy_57 : decode cX5_copy 57 = .ok (.invokevirtual 61, 3) := by decide +kernel
theorem dX5_copy_60 : decode cX5_copy 60 = .ok (.ireturn, 1) := by decide +kernel
theorem dX5_copy_61 : decode cX5_copy 61 = .ok (.aload 6, 2) := by decide +kernel
theorem dX5_copy_63 : decode cX5_copy 63 = .ok (.getfield 199, 3) := by decide +kernel
theorem dX5_copy_66 : decode cX5_copy 66 = .ok (.aload 7, 2) := by decide +kernel
theorem dX5_copy_68 : decode cX5_copy 68 = .ok (.getfield 199, 3) := by decide +kernel
theorem dX5_copy_71 : decode cX5_copy 71 = .ok (.if_icmp .eq 9, 3) := by decide +kernel
theorem dX5_copy_74 : decode cX5_copy 74 = .ok (.aload_n 0, 1) := by decide +kernel
theorem dX5_copy_75 : decode cX5_copy 75 = .ok (.iconst 2, 1) := by decide +kernel
theorem dX5_copy_76 : decode cX5_copy 76 = .ok (.invokevirtual 61, 3) := by decide +kernel
theorem dX5_copy_79 : decode cX5_copy 79 = .ok (.ireturn, 1) := by decide +kernel
theorem dX5_copy_80 : decode cX5_copy 80 = .ok (.aload 6, 2) := by decide +kernel
theorem dX5_copy_82 : decode cX5_copy 82 = .ok (.iload_n 2, 1) := by decide +kernel
theorem dX5_copy_83 : decode cX5_copy 83 = .ok (.iload 5, 2) := by decide +kernel
theorem dX5_copy_85 : decode cX5_copy 85 = .ok (.invokevirtual 57, 3) := by decide +kernel
theorem dX5_copy_88 : decode cX5_copy 88 = .ok (.ifCond .eq 15, 3) := by decide +kernel
theorem dX5_copy_91 : decode cX5_copy 91 = .ok (.aload 7, 2) := by decide +kernel
theorem dX5_copy_93 : decode cX5_copy 93 = .ok (.iload 4, 2) := by decide +kernel
theorem dX5_copy_95 : decode cX5_copy 95 = .ok (.iload 5, 2) := by decide +kernel
theorem dX5_copy_97 : decode cX5_copy 97 = .ok (.invokevirtual 57, 3) := by decide +kernel
theorem dX5_copy_100 : decode cX5_copy 100 = .ok (.ifCond .ne 9, 3) := by decide +kernel
theorem dX5_copy_103 : decode cX5_copy 103 = .ok (.aload_n 0, 1) := by decide +kernel
theorem dX5_copy_104 : decode cX5_copy 104 = .ok (.iconst 3, 1) := by decide +kernel
theorem dX5_copy_105 : decode cX5_copy 105 = .ok (.invokevirtual 61, 3) := by decide +kernel
theorem dX5_copy_108 : decode cX5_copy 108 = .ok (.ireturn, 1) := by decide +kernel
theorem dX5_copy_109 : decode cX5_copy 109 = .ok (.aload 6, 2) := by decide +kernel
theorem dX5_copy_111 : decode cX5_copy 111 = .ok (.getfield 202, 3) := by decide +kernel
theorem dX5_copy_114 : decode cX5_copy 114 = .ok (.iload_n 2, 1) := by decide +kernel
theorem dX5_copy_115 : decode cX5_copy 115 = .ok (.aload 7, 2) := by decide +kernel
theorem dX5_copy_117 : decode cX5_copy 117 = .ok (.getfield 202, 3) := by decide +kernel
theorem dX5_copy_120 : decode cX5_copy 120 = .ok (.iload 4, 2) := by decide +kernel
theorem dX5_copy_122 : decode cX5_copy 122 = .ok (.iload 5, 2) := by decide +kernel
theorem dX5_copy_124 : decode cX5_copy 124 = .ok (.invokestatic 208, 3) := by decide +kernel
theorem dX5_copy_127 : decode cX5_copy 127 = .ok (.iload 5, 2) := by decide +kernel
theorem dX5_copy_129 : decode cX5_copy 129 = .ok (.ireturn, 1) := by decide +kernel
theorem dX5_tell_0 : decode cX5_tell 0 = .ok (.aload_n 0, 1) := by decide +kernel
theorem dX5_tell_1 : decode cX5_tell 1 = .ok (.getfield 14, 3) := by decide +kernel
theorem dX5_tell_4 : decode cX5_tell 4 = .ok (.iload_n 1, 1) := by decide +kernel
theorem dX5_tell_5 : decode cX5_tell 5 = .ok (.invokevirtual 83, 3) := by decide +kernel
theorem dX5_tell_8 : decode cX5_tell 8 = .ok (.ifCond .ne 5, 3) := by decide +kernel
theorem dX5_tell_11 : decode cX5_tell 11 = .ok (.iconst (-1), 1) := by decide +kernel
theorem dX5_tell_12 : decode cX5_tell 12 = .ok (.ireturn, 1) := by decide +kernel
theorem dX5_tell_13 : decode cX5_tell 13 = .ok (.aload_n 0, 1) := by decide +kernel
theorem dX5_tell_14 : decode cX5_tell 14 = .ok (.getfield 14, 3) := by decide +kernel
theorem dX5_tell_17 : decode cX5_tell 17 = .ok (.getfield 86, 3) := by decide +kernel
theorem dX5_tell_20 : decode cX5_tell 20 = .ok (.iload_n 1, 1) := by decide +kernel
theorem dX5_tell_21 : decode cX5_tell 21 = .ok (.iaload, 1) := by decide +kernel
theorem dX5_tell_22 : decode cX5_tell 22 = .ok (.lookupswitch 38 #[(1, 32), (2, 26)], 26) := by decide +kernel
theorem dX5_tell_48 : decode cX5_tell 48 = .ok (.aload_n 0, 1) := by decide +kernel
theorem dX5_tell_49 : decode cX5_tell 49 = .ok (.iload_n 1, 1) := by decide +kernel
theorem dX5_tell_50 : decode cX5_tell 50 = .ok (.invokevirtual 214, 3) := by decide +kernel
theorem dX5_tell_53 : decode cX5_tell 53 = .ok (.ireturn, 1) := by decide +kernel
theorem dX5_tell_54 : decode cX5_tell 54 = .ok (.aload_n 0, 1) := by decide +kernel
theorem dX5_tell_55 : decode cX5_tell 55 = .ok (.iload_n 1, 1) := by decide +kernel
theorem dX5_tell_56 : decode cX5_tell 56 = .ok (.invokevirtual 217, 3) := by decide +kernel
theorem dX5_tell_59 : decode cX5_tell 59 = .ok (.ireturn, 1) := by decide +kernel
theorem dX5_tell_60 : decode cX5_tell 60 = .ok (.aload_n 0, 1) := by decide +kernel
theorem dX5_tell_61 : decode cX5_tell 61 = .ok (.iload_n 1, 1) := by decide +kernel
theorem dX5_tell_62 : decode cX5_tell 62 = .ok (.invokevirtual 220, 3) := by decide +kernel
theorem dX5_tell_65 : decode cX5_tell 65 = .ok (.ireturn, 1) := by decide +kernel
theorem dX5_tellPlain_0 : decode cX5_tellPlain 0 = .ok (.aload_n 0, 1) := by decide +kernel
theorem dX5_tellPlain_1 : decode cX5_tellPlain 1 = .ok (.iconst 1, 1) := by decide +kernel
theorem dX5_tellPlain_2 : decode cX5_tellPlain 2 = .ok (.invokevirtual 223, 3) := by decide +kernel
theorem dX5_tellPlain_5 : decode cX5_tellPlain 5 = .ok (.aload_n 0, 1) := by decide +kernel
theorem dX5_tellPlain_6 : decode cX5_tellPlain 6 = .ok (.getfield 14, 3) := by decide +kernel
theorem dX5_tellPlain_9 : decode cX5_tellPlain 9 = .ok (.getfield 90, 3) := by decide +kernel
theorem dX5_tellPlain_12 : decode cX5_tellPlain 12 = .ok (.iload_n 1, 1) := by decide +kernel
theorem dX5_tellPlain_13 : decode cX5_tellPlain 13 = .ok (.iaload, 1) := by decide +kernel
theorem dX5_tellPlain_14 : decode cX5_tellPlain 14 = .ok (.ireturn, 1) := by decide +kernel
theorem dX5_tellBroad_0 : decode cX5_tellBroad 0 = .ok (.aload_n 0, 1) := by decide +kernel
theorem dX5_tellBroad_1 : decode cX5_tellBroad 1 = .ok (.iconst 2, 1) := by decide +kernel
theorem dX5_tellBroad_2 : decode cX5_tellBroad 2 = .ok (.invokevirtual 223, 3) := by decide +kernel
theorem dX5_tellBroad_5 : decode cX5_tellBroad 5 = .ok (.aload_n 0, 1) := by decide +kernel
theorem dX5_tellBroad_6 : decode cX5_tellBroad 6 = .ok (.iload_n 1, 1) := by decide +kernel
theorem dX5_tellBroad_7 : decode cX5_tellBroad 7 = .ok (.invokevirtual 220, 3) := by decide +kernel
theorem dX5_tellBroad_10 : decode cX5_tellBroad 10 = .ok (.bipush 100, 2) := by decide +kernel
theorem dX5_tellBroad_12 : decode cX5_tellBroad 12 = .ok (.iadd, 1) := by decide +kernel
theorem dX5_tellBroad_13 : decode cX5_tellBroad 13 = .ok (.ireturn, 1) := by decide +kernel
theorem dX5_tellDouble_0 : decode cX5_tellDouble 0 = .ok (.aload_n 0, 1) := by decide +kernel
theorem dX5_tellDouble_1 : decode cX5_tellDouble 1 = .ok (.iconst 3, 1) := by decide +kernel
theorem dX5_tellDouble_2 : decode cX5_tellDouble 2 = .ok (.invokevirtual 223, 3) := by decide +kernel
theorem dX5_tellDouble_5 : decode cX5_tellDouble 5 = .ok (.aload_n 0, 1) := by decide +kernel
theorem dX5_tellDouble_6 : decode cX5_tellDouble 6 = .ok (.iload_n 1, 1) := by decide +kernel
theorem dX5_tellDouble_7 : decode cX5_tellDouble 7 = .ok (.invokevirtual 217, 3) := by decide +kernel
theorem dX5_tellDouble_10 : decode cX5_tellDouble 10 = .ok (.istore_n 2, 1) := by decide +kernel
theorem dX5_tellDouble_11 : decode cX5_tellDouble 11 = .ok (.iload_n 2, 1) := by decide +kernel
theorem dX5_tellDouble_12 : decode cX5_tellDouble 12 = .ok (.aload_n 0, 1) := by decide +kernel
theorem dX5_tellDouble_13 : decode cX5_tellDouble 13 = .ok (.iload_n 1, 1) := by decide +kernel
theorem dX5_tellDouble_14 : decode cX5_tellDouble 14 = .ok (.invokevirtual 220, 3) := by decide +kernel
theorem dX5_tellDouble_17 : decode cX5_tellDouble 17 = .ok (.iadd, 1) := by decide +kernel
theorem dX5_tellDouble_18 : decode cX5_tellDouble 18 = .ok (.ireturn, 1) := by decide +kernel
theorem dX5_knock_0 : decode cX5_knock 0 = .ok (.aload_n 0, 1) := by decide +kernel
theorem dX5_knock_1 : decode cX5_knock 1 = .ok (.getfield 14, 3) := by decide +kernel
theorem dX5_knock_4 : decode cX5_knock 4 = .ok (.iload_n 1, 1) := by decide +kernel
theorem dX5_knock_5 : decode cX5_knock 5 = .ok (.invokevirtual 83, 3) := by decide +kernel
theorem dX5_knock_8 : decode cX5_knock 8 = .ok (.ifCond .ne 5, 3) := by decide +kernel
theorem dX5_knock_11 : decode cX5_knock 11 = .ok (.iconst (-1), 1) := by decide +kernel
theorem dX5_knock_12 : decode cX5_knock 12 = .ok (.ireturn, 1) := by decide +kernel
theorem dX5_knock_13 : decode cX5_knock 13 = .ok (.aload_n 0, 1) := by decide +kernel
theorem dX5_knock_14 : decode cX5_knock 14 = .ok (.getfield 14, 3) := by decide +kernel
theorem dX5_knock_17 : decode cX5_knock 17 = .ok (.getfield 86, 3) := by decide +kernel
theorem dX5_knock_20 : decode cX5_knock 20 = .ok (.iload_n 1, 1) := by decide +kernel
theorem dX5_knock_21 : decode cX5_knock 21 = .ok (.iaload, 1) := by decide +kernel
theorem dX5_knock_22 : decode cX5_knock 22 = .ok (.iconst 2, 1) := by decide +kernel
theorem dX5_knock_23 : decode cX5_knock 23 = .ok (.if_icmp .ne 11, 3) := by decide +kernel
theorem dX5_knock_26 : decode cX5_knock 26 = .ok (.aload_n 0, 1) := by decide +kernel
theorem dX5_knock_27 : decode cX5_knock 27 = .ok (.iconst 5, 1) := by decide +kernel
theorem dX5_knock_28 : decode cX5_knock 28 = .ok (.invokevirtual 223, 3) := by decide +kernel
theorem dX5_knock_31 : decode cX5_knock 31 = .ok (.bipush 80, 2) := by decide +kernel
theorem dX5_knock_33 : decode cX5_knock 33 = .ok (.ireturn, 1) := by decide +kernel
theorem dX5_knock_34 : decode cX5_knock 34 = .ok (.aload_n 0, 1) := by decide +kernel
theorem dX5_knock_35 : decode cX5_knock 35 = .ok (.iconst 4, 1) := by decide +kernel
theorem dX5_knock_36 : decode cX5_knock 36 = .ok (.invokevirtual 223, 3) := by decide +kernel
theorem dX5_knock_39 : decode cX5_knock 39 = .ok (.aload_n 0, 1) := by decide +kernel
theorem dX5_knock_40 : decode cX5_knock 40 = .ok (.getfield 14, 3) := by decide +kernel
theorem dX5_knock_43 : decode cX5_knock 43 = .ok (.getfield 96, 3) := by decide +kernel
theorem dX5_knock_46 : decode cX5_knock 46 = .ok (.iload_n 1, 1) := by decide +kernel
theorem dX5_knock_47 : decode cX5_knock 47 = .ok (.iaload, 1) := by decide +kernel
theorem dX5_knock_48 : decode cX5_knock 48 = .ok (.invokestatic 99, 3) := by decide +kernel
theorem dX5_knock_51 : decode cX5_knock 51 = .ok (.ireturn, 1) := by decide +kernel
theorem dX5_as_0 : decode cX5_as 0 = .ok (.aload_n 0, 1) := by decide +kernel
theorem dX5_as_1 : decode cX5_as 1 = .ok (.iconst 0, 1) := by decide +kernel
theorem dX5_as_2 : decode cX5_as 2 = .ok (.putfield 42, 3) := by decide +kernel
theorem dX5_as_5 : decode cX5_as 5 = .ok (.aload_n 0, 1) := by decide +kernel
theorem dX5_as_6 : decode cX5_as 6 = .ok (.getfield 14, 3) := by decide +kernel
theorem dX5_as_9 : decode cX5_as 9 = .ok (.iload_n 1, 1) := by decide +kernel
theorem dX5_as_10 : decode cX5_as 10 = .ok (.invokevirtual 83, 3) := by decide +kernel
theorem dX5_as_13 : decode cX5_as 13 = .ok (.ifCond .ne 5, 3) := by decide +kernel
theorem dX5_as_16 : decode cX5_as 16 = .ok (.iconst (-1), 1) := by decide +kernel
theorem dX5_as_17 : decode cX5_as 17 = .ok (.ireturn, 1) := by decide +kernel
theorem dX5_as_18 : decode cX5_as 18 = .ok (.iload_n 2, 1) := by decide +kernel
theorem dX5_as_19 : decode cX5_as 19 = .ok (.ifCond .lt 8, 3) := by decide +kernel
theorem dX5_as_22 : decode cX5_as 22 = .ok (.iload_n 2, 1) := by decide +kernel
theorem dX5_as_23 : decode cX5_as 23 = .ok (.iconst 2, 1) := by decide +kernel
theorem dX5_as_24 : decode cX5_as 24 = .ok (.if_icmp .le 6, 3) := by decide +kernel
theorem dX5_as_27 : decode cX5_as 27 = .ok (.bipush (-2), 2) := by decide +kernel
theorem dX5_as_29 : decode cX5_as 29 = .ok (.ireturn, 1) := by decide +kernel
theorem dX5_as_30 : decode cX5_as 30 = .ok (.aload_n 0, 1) := by decide +kernel
theorem dX5_as_31 : decode cX5_as 31 = .ok (.getfield 14, 3) := by decide +kernel
theorem dX5_as_34 : decode cX5_as 34 = .ok (.getfield 86, 3) := by decide +kernel
theorem dX5_as_37 : decode cX5_as 37 = .ok (.iload_n 1, 1) := by decide +kernel
theorem dX5_as_38 : decode cX5_as 38 = .ok (.iaload, 1) := by decide +kernel
theorem dX5_as_39 : decode cX5_as 39 = .ok (.iload_n 2, 1) := by decide +kernel
theorem dX5_as_40 : decode cX5_as 40 = .ok (.if_icmp .ge 11, 3) := by decide +kernel
theorem dX5_as_43 : decode cX5_as 43 = .ok (.aload_n 0, 1) := by decide +kernel
theorem dX5_as_44 : decode cX5_as 44 = .ok (.iconst 2, 1) := by decide +kernel
theorem dX5_as_45 : decode cX5_as 45 = .ok (.invokevirtual 61, 3) := by decide +kernel
theorem dX5_as_48 : decode cX5_as 48 = .ok (.goto 4, 3) := by decide +kernel
theorem dX5_as_51 : decode cX5_as 51 = .ok (.iconst 1, 1) := by decide +kernel
theorem dX5_as_52 : decode cX5_as 52 = .ok (.ireturn, 1) := by decide +kernel
theorem dX5_trace_0 : decode cX5_trace 0 = .ok (.aload_n 0, 1) := by decide +kernel
theorem dX5_trace_1 : decode cX5_trace 1 = .ok (.getfield 227, 3) := by decide +kernel
theorem dX5_trace_4 : decode cX5_trace 4 = .ok (.ireturn, 1) := by decide +kernel
theorem dX5_fault_0 : decode cX5_fault 0 = .ok (.aload_n 0, 1) := by decide +kernel
theorem dX5_fault_1 : decode cX5_fault 1 = .ok (.getfield 42, 3) := by decide +kernel
theorem dX5_fault_4 : decode cX5_fault 4 = .ok (.ireturn, 1) := by decide +kernel
theorem dX5_many_0 : decode cX5_many 0 = .ok (.iload_n 1, 1) := by decide +kernel
theorem dX5_many_1 : decode cX5_many 1 = .ok (.tableswitch 63 0 3 #[31, 39, 44, 55], 31) := by decide +kernel
theorem dX5_many_32 : decode cX5_many 32 = .ok (.aload_n 0, 1) := by decide +kernel
theorem dX5_many_33 : decode cX5_many 33 = .ok (.getfield 14, 3) := by decide +kernel
theorem dX5_many_36 : decode cX5_many 36 = .ok (.getfield 80, 3) := by decide +kernel
theorem dX5_many_39 : decode cX5_many 39 = .ok (.ireturn, 1) := by decide +kernel
theorem dX5_many_40 : decode cX5_many 40 = .ok (.aload_n 0, 1) := by decide +kernel
theorem dX5_many_41 : decode cX5_many 41 = .ok (.getfield 74, 3) := by decide +kernel
theorem dX5_many_44 : decode cX5_many 44 = .ok (.ireturn, 1) := by decide +kernel
theorem dX5_many_45 : decode cX5_many 45 = .ok (.aload_n 0, 1) := by decide +kernel
theorem dX5_many_46 : decode cX5_many 46 = .ok (.getfield 14, 3) := by decide +kernel
theorem dX5_many_49 : decode cX5_many 49 = .ok (.invokevirtual 152, 3) := by decide +kernel
theorem dX5_many_52 : decode cX5_many 52 = .ok (.invokestatic 99, 3) := by decide +kernel
theorem dX5_many_55 : decode cX5_many 55 = .ok (.ireturn, 1) := by decide +kernel
theorem dX5_many_56 : decode cX5_many 56 = .ok (.aload_n 0, 1) := by decide +kernel
theorem dX5_many_57 : decode cX5_many 57 = .ok (.getfield 31, 3) := by decide +kernel
theorem dX5_many_60 : decode cX5_many 60 = .ok (.getfield 77, 3) := by decide +kernel
theorem dX5_many_63 : decode cX5_many 63 = .ok (.ireturn, 1) := by decide +kernel
theorem dX5_many_64 : decode cX5_many 64 = .ok (.bipush (-2), 2) := by decide +kernel
theorem dX5_many_66 : decode cX5_many 66 = .ok (.ireturn, 1) := by decide +kernel
theorem dX5_leave_0 : decode cX5_leave 0 = .ok (.aload_n 0, 1) := by decide +kernel
theorem dX5_leave_1 : decode cX5_leave 1 = .ok (.bipush 31, 2) := by decide +kernel
theorem dX5_leave_3 : decode cX5_leave 3 = .ok (.aload_n 0, 1) := by decide +kernel
theorem dX5_leave_4 : decode cX5_leave 4 = .ok (.getfield 227, 3) := by decide +kernel
theorem dX5_leave_7 : decode cX5_leave 7 = .ok (.imul, 1) := by decide +kernel
theorem dX5_leave_8 : decode cX5_leave 8 = .ok (.iload_n 1, 1) := by decide +kernel
theorem dX5_leave_9 : decode cX5_leave 9 = .ok (.iadd, 1) := by decide +kernel
theorem dX5_leave_10 : decode cX5_leave 10 = .ok (.putfield 227, 3) := by decide +kernel
theorem dX5_leave_13 : decode cX5_leave 13 = .ok (.return_, 1) := by decide +kernel
theorem dX5_faulted_0 : decode cX5_faulted 0 = .ok (.aload_n 0, 1) := by decide +kernel
theorem dX5_faulted_1 : decode cX5_faulted 1 = .ok (.iload_n 1, 1) := by decide +kernel
theorem dX5_faulted_2 : decode cX5_faulted 2 = .ok (.putfield 42, 3) := by decide +kernel
theorem dX5_faulted_5 : decode cX5_faulted 5 = .ok (.bipush (-10), 2) := by decide +kernel
theorem dX5_faulted_7 : decode cX5_faulted 7 = .ok (.iload_n 1, 1) := by decide +kernel
theorem dX5_faulted_8 : decode cX5_faulted 8 = .ok (.isub, 1) := by decide +kernel
theorem dX5_faulted_9 : decode cX5_faulted 9 = .ok (.ireturn, 1) := by decide +kernel
theorem dX5_isSheet_0 : decode cX5_isSheet 0 = .ok (.iload_n 0, 1) := by decide +kernel
theorem dX5_isSheet_1 : decode cX5_isSheet 1 = .ok (.ifCond .lt 12, 3) := by decide +kernel
theorem dX5_isSheet_4 : decode cX5_isSheet 4 = .ok (.iload_n 0, 1) := by decide +kernel
theorem dX5_isSheet_5 : decode cX5_isSheet 5 = .ok (.iconst 4, 1) := by decide +kernel
theorem dX5_isSheet_6 : decode cX5_isSheet 6 = .ok (.if_icmp .ge 7, 3) := by decide +kernel
theorem dX5_isSheet_9 : decode cX5_isSheet 9 = .ok (.iconst 1, 1) := by decide +kernel
theorem dX5_isSheet_10 : decode cX5_isSheet 10 = .ok (.goto 4, 3) := by decide +kernel
theorem dX5_isSheet_13 : decode cX5_isSheet 13 = .ok (.iconst 0, 1) := by decide +kernel
theorem dX5_isSheet_14 : decode cX5_isSheet 14 = .ok (.ireturn, 1) := by decide +kernel
theorem dX5_isLane_0 : decode cX5_isLane 0 = .ok (.iload_n 0, 1) := by decide +kernel
theorem dX5_isLane_1 : decode cX5_isLane 1 = .ok (.ifCond .lt 12, 3) := by decide +kernel
theorem dX5_isLane_4 : decode cX5_isLane 4 = .ok (.iload_n 0, 1) := by decide +kernel
theorem dX5_isLane_5 : decode cX5_isLane 5 = .ok (.iconst 2, 1) := by decide +kernel
theorem dX5_isLane_6 : decode cX5_isLane 6 = .ok (.if_icmp .gt 7, 3) := by decide +kernel
theorem dX5_isLane_9 : decode cX5_isLane 9 = .ok (.iconst 1, 1) := by decide +kernel
theorem dX5_isLane_10 : decode cX5_isLane 10 = .ok (.goto 4, 3) := by decide +kernel
theorem dX5_isLane_13 : decode cX5_isLane 13 = .ok (.iconst 0, 1) := by decide +kernel
theorem dX5_isLane_14 : decode cX5_isLane 14 = .ok (.ireturn, 1) := by decide +kernel
theorem dX5_worthOf_0 : decode cX5_worthOf 0 = .ok (.iload_n 0, 1) := by decide +kernel
theorem dX5_worthOf_1 : decode cX5_worthOf 1 = .ok (.lookupswitch 35 #[(1, 27), (2, 31)], 27) := by decide +kernel
theorem dX5_worthOf_28 : decode cX5_worthOf 28 = .ok (.iload_n 1, 1) := by decide +kernel
theorem dX5_worthOf_29 : decode cX5_worthOf 29 = .ok (.iconst 1, 1) := by decide +kernel
theorem dX5_worthOf_30 : decode cX5_worthOf 30 = .ok (.iadd, 1) := by decide +kernel
theorem dX5_worthOf_31 : decode cX5_worthOf 31 = .ok (.ireturn, 1) := by decide +kernel
theorem dX5_worthOf_32 : decode cX5_worthOf 32 = .ok (.iconst 2, 1) := by decide +kernel
theorem dX5_worthOf_33 : decode cX5_worthOf 33 = .ok (.iload_n 1, 1) := by decide +kernel
theorem dX5_worthOf_34 : decode cX5_worthOf 34 = .ok (.imul, 1) := by decide +kernel
theorem dX5_worthOf_35 : decode cX5_worthOf 35 = .ok (.ireturn, 1) := by decide +kernel
theorem dX5_worthOf_36 : decode cX5_worthOf 36 = .ok (.iload_n 1, 1) := by decide +kernel
theorem dX5_worthOf_37 : decode cX5_worthOf 37 = .ok (.ireturn, 1) := by decide +kernel
theorem dX5_leastOf_0 : decode cX5_leastOf 0 = .ok (.iconst 0, 1) := by decide +kernel
theorem dX5_leastOf_1 : decode cX5_leastOf 1 = .ok (.istore_n 1, 1) := by decide +kernel
theorem dX5_leastOf_2 : decode cX5_leastOf 2 = .ok (.iload_n 1, 1) := by decide +kernel
theorem dX5_leastOf_3 : decode cX5_leastOf 3 = .ok (.bipush 8, 2) := by decide +kernel
theorem dX5_leastOf_5 : decode cX5_leastOf 5 = .ok (.if_icmp .ge 19, 3) := by decide +kernel
theorem dX5_leastOf_8 : decode cX5_leastOf 8 = .ok (.iload_n 0, 1) := by decide +kernel
theorem dX5_leastOf_9 : decode cX5_leastOf 9 = .ok (.iload_n 1, 1) := by decide +kernel
theorem dX5_leastOf_10 : decode cX5_leastOf 10 = .ok (.ishr, 1) := by decide +kernel
theorem dX5_leastOf_11 : decode cX5_leastOf 11 = .ok (.iconst 1, 1) := by decide +kernel
theorem dX5_leastOf_12 : decode cX5_leastOf 12 = .ok (.iand, 1) := by decide +kernel
theorem dX5_leastOf_13 : decode cX5_leastOf 13 = .ok (.ifCond .eq 5, 3) := by decide +kernel
theorem dX5_leastOf_16 : decode cX5_leastOf 16 = .ok (.iload_n 1, 1) := by decide +kernel
theorem dX5_leastOf_17 : decode cX5_leastOf 17 = .ok (.ireturn, 1) := by decide +kernel
theorem dX5_leastOf_18 : decode cX5_leastOf 18 = .ok (.iinc 1 1, 3) := by decide +kernel
theorem dX5_leastOf_21 : decode cX5_leastOf 21 = .ok (.goto (-19), 3) := by decide +kernel
theorem dX5_leastOf_24 : decode cX5_leastOf 24 = .ok (.iconst 0, 1) := by decide +kernel
theorem dX5_leastOf_25 : decode cX5_leastOf 25 = .ok (.ireturn, 1) := by decide +kernel
