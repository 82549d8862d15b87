theorem dX6_findNames_88 : decode cX6_findNames 88 = .ok (.iload 4, 2) := by decide +kernel
theorem dX6_findNames_90 : decode cX6_findNames 90 = .ok (.iload 6, 2) := by decide +kernel
theorem dX6_findNames_92 : decode cX6_findNames 92 = .ok (.iastore, 1) := by decide +kernel
theorem dX6_findNames_93 : decode cX6_findNames 93 = .ok (.iload_n 3, 1) := by decide +kernel
theorem dX6_findNames_94 : decode cX6_findNames 94 = .ok (.iconst 1, 1) := by decide +kernel
theorem dX6_findNames_95 : decode cX6_findNames 95 = .ok (.iload 6, 2) := by decide +kernel
theorem dX6_findNames_97 : decode cX6_findNames 97 = .ok (.ishl, 1) := by decide +kernel
theorem dX6_findNames_98 : decode cX6_findNames 98 = .ok (.iconst (-1), 1) := by decide +kernel
theorem dX6_findNames_99 : decode cX6_findNames 99 = .ok (.ixor, 1) := by decide +kernel
theorem dX6_findNames_100 : decode cX6_findNames 100 = .ok (.iand, 1) := by decide +kernel
theorem dX6_findNames_101 : decode cX6_findNames 101 = .ok (.istore_n 3, 1) := by decide +kernel
theorem dX6_findNames_102 : decode cX6_findNames 102 = .ok (.iinc 4 1, 3) := by decide +kernel
theorem dX6_findNames_105 : decode cX6_findNames 105 = .ok (.goto (-91), 3) := by decide +kernel
theorem dX6_findNames_108 : decode cX6_findNames 108 = .ok (.return_, 1) := by decide +kernel
theorem dX6_isSame_0 : decode cX6_isSame 0 = .ok (.iconst 0, 1) := by decide +kernel
theorem dX6_isSame_1 : decode cX6_isSame 1 = .ok (.istore_n 1, 1) := by decide +kernel
theorem dX6_isSame_2 : decode cX6_isSame 2 = .ok (.iload_n 1, 1) := by decide +kernel
theorem dX6_isSame_3 : decode cX6_isSame 3 = .ok (.aload_n 0, 1) := by decide +kernel
theorem dX6_isSame_4 : decode cX6_isSame 4 = .ok (.getfield 80, 3) := by decide +kernel
theorem dX6_isSame_7 : decode cX6_isSame 7 = .ok (.if_icmp .ge 72, 3) := by decide +kernel
theorem dX6_isSame_10 : decode cX6_isSame 10 = .ok (.iconst 0, 1) := by decide +kernel
theorem dX6_isSame_11 : decode cX6_isSame 11 = .ok (.istore_n 2, 1) := by decide +kernel
theorem dX6_isSame_12 : decode cX6_isSame 12 = .ok (.iconst 0, 1) := by decide +kernel
theorem dX6_isSame_13 : decode cX6_isSame 13 = .ok (.istore_n 3, 1) := by decide +kernel
theorem dX6_isSame_14 : decode cX6_isSame 14 = .ok (.iload_n 3, 1) := by decide +kernel
theorem dX6_isSame_15 : decode cX6_isSame 15 = .ok (.aload_n 0, 1) := by decide +kernel
theorem dX6_isSame_16 : decode cX6_isSame 16 = .ok (.getfield 80, 3) := by decide +kernel
theorem dX6_isSame_19 : decode cX6_isSame 19 = .ok (.if_icmp .ge 37, 3) := by decide +kernel
theorem dX6_isSame_22 : decode cX6_isSame 22 = .ok (.iload_n 2, 1) := by decide +kernel
theorem dX6_isSame_23 : decode cX6_isSame 23 = .ok (.aload_n 0, 1) := by decide +kernel
theorem dX6_isSame_24 : decode cX6_isSame 24 = .ok (.getfield 19, 3) := by decide +kernel
theorem dX6_isSame_27 : decode cX6_isSame 27 = .ok (.iload_n 1, 1) := by decide +kernel
theorem dX6_isSame_28 : decode cX6_isSame 28 = .ok (.iaload, 1) := by decide +kernel
theorem dX6_isSame_29 : decode cX6_isSame 29 = .ok (.iload_n 3, 1) := by decide +kernel
theorem dX6_isSame_30 : decode cX6_isSame 30 = .ok (.invokestatic 87, 3) := by decide +kernel
theorem dX6_isSame_33 : decode cX6_isSame 33 = .ok (.ifCond .eq 14, 3) := by decide +kernel
theorem dX6_isSame_36 : decode cX6_isSame 36 = .ok (.iconst 1, 1) := by decide +kernel
theorem dX6_isSame_37 : decode cX6_isSame 37 = .ok (.aload_n 0, 1) := by decide +kernel
theorem dX6_isSame_38 : decode cX6_isSame 38 = .ok (.getfield 52, 3) := by decide +kernel
theorem dX6_isSame_41 : decode cX6_isSame 41 = .ok (.iload_n 3, 1) := by decide +kernel
theorem dX6_isSame_42 : decode cX6_isSame 42 = .ok (.iaload, 1) := by decide +kernel
theorem dX6_isSame_43 : decode cX6_isSame 43 = .ok (.ishl, 1) := by decide +kernel
theorem dX6_isSame_44 : decode cX6_isSame 44 = .ok (.goto 4, 3) := by decide +kernel
theorem dX6_isSame_47 : decode cX6_isSame 47 = .ok (.iconst 0, 1) := by decide +kernel
theorem dX6_isSame_48 : decode cX6_isSame 48 = .ok (.ior, 1) := by decide +kernel
theorem dX6_isSame_49 : decode cX6_isSame 49 = .ok (.istore_n 2, 1) := by decide +kernel
theorem dX6_isSame_50 : decode cX6_isSame 50 = .ok (.iinc 3 1, 3) := by decide +kernel
theorem dX6_isSame_53 : decode cX6_isSame 53 = .ok (.goto (-39), 3) := by decide +kernel
theorem dX6_isSame_56 : decode cX6_isSame 56 = .ok (.iload_n 2, 1) := by decide +kernel
theorem dX6_isSame_57 : decode cX6_isSame 57 = .ok (.aload_n 0, 1) := by decide +kernel
theorem dX6_isSame_58 : decode cX6_isSame 58 = .ok (.getfield 19, 3) := by decide +kernel
theorem dX6_isSame_61 : decode cX6_isSame 61 = .ok (.aload_n 0, 1) := by decide +kernel
theorem dX6_isSame_62 : decode cX6_isSame 62 = .ok (.getfield 52, 3) := by decide +kernel
theorem dX6_isSame_65 : decode cX6_isSame 65 = .ok (.iload_n 1, 1) := by decide +kernel
theorem dX6_isSame_66 : decode cX6_isSame 66 = .ok (.iaload, 1) := by decide +kernel
theorem dX6_isSame_67 : decode cX6_isSame 67 = .ok (.iaload, 1) := by decide +kernel
theorem dX6_isSame_68 : decode cX6_isSame 68 = .ok (.if_icmp .eq 5, 3) := by decide +kernel
theorem dX6_isSame_71 : decode cX6_isSame 71 = .ok (.iconst 0, 1) := by decide +kernel
theorem dX6_isSame_72 : decode cX6_isSame 72 = .ok (.ireturn, 1) := by decide +kernel
theorem dX6_isSame_73 : decode cX6_isSame 73 = .ok (.iinc 1 1, 3) := by decide +kernel
theorem dX6_isSame_76 : decode cX6_isSame 76 = .ok (.goto (-74), 3) := by decide +kernel
theorem dX6_isSame_79 : decode cX6_isSame 79 = .ok (.iconst 1, 1) := by decide +kernel
theorem dX6_isSame_80 : decode cX6_isSame 80 = .ok (.ireturn, 1) := by decide +kernel
theorem dX6_alike_0 : decode cX6_alike 0 = .ok (.aload_n 0, 1) := by decide +kernel
theorem dX6_alike_1 : decode cX6_alike 1 = .ok (.getfield 80, 3) := by decide +kernel
theorem dX6_alike_4 : decode cX6_alike 4 = .ok (.ifCond .ne 6, 3) := by decide +kernel
theorem dX6_alike_7 : decode cX6_alike 7 = .ok (.bipush (-3), 2) := by decide +kernel
theorem dX6_alike_9 : decode cX6_alike 9 = .ok (.ireturn, 1) := by decide +kernel
theorem dX6_alike_10 : decode cX6_alike 10 = .ok (.iconst 0, 1) := by decide +kernel
theorem dX6_alike_11 : decode cX6_alike 11 = .ok (.istore_n 1, 1) := by decide +kernel
theorem dX6_alike_12 : decode cX6_alike 12 = .ok (.aload_n 0, 1) := by decide +kernel
theorem dX6_alike_13 : decode cX6_alike 13 = .ok (.invokevirtual 184, 3) := by decide +kernel
theorem dX6_alike_16 : decode cX6_alike 16 = .ok (.istore_n 2, 1) := by decide +kernel
theorem dX6_alike_17 : decode cX6_alike 17 = .ok (.iconst 0, 1) := by decide +kernel
theorem dX6_alike_18 : decode cX6_alike 18 = .ok (.istore_n 3, 1) := by decide +kernel
theorem dX6_alike_19 : decode cX6_alike 19 = .ok (.iload_n 3, 1) := by decide +kernel
theorem dX6_alike_20 : decode cX6_alike 20 = .ok (.iload_n 2, 1) := by decide +kernel
theorem dX6_alike_21 : decode cX6_alike 21 = .ok (.if_icmp .ge 29, 3) := by decide +kernel
theorem dX6_alike_24 : decode cX6_alike 24 = .ok (.aload_n 0, 1) := by decide +kernel
theorem dX6_alike_25 : decode cX6_alike 25 = .ok (.iload_n 3, 1) := by decide +kernel
theorem dX6_alike_26 : decode cX6_alike 26 = .ok (.invokevirtual 187, 3) := by decide +kernel
theorem dX6_alike_29 : decode cX6_alike 29 = .ok (.iload_n 1, 1) := by decide +kernel
theorem dX6_alike_30 : decode cX6_alike 30 = .ok (.aload_n 0, 1) := by decide +kernel
theorem dX6_alike_31 : decode cX6_alike 31 = .ok (.invokevirtual 191, 3) := by decide +kernel
theorem dX6_alike_34 : decode cX6_alike 34 = .ok (.ifCond .eq 7, 3) := by decide +kernel
theorem dX6_alike_37 : decode cX6_alike 37 = .ok (.iconst 1, 1) := by decide +kernel
theorem dX6_alike_38 : decode cX6_alike 38 = .ok (.goto 4, 3) := by decide +kernel
theorem dX6_alike_41 : decode cX6_alike 41 = .ok (.iconst 0, 1) := by decide +kernel
theorem dX6_alike_42 : decode cX6_alike 42 = .ok (.iadd, 1) := by decide +kernel
theorem dX6_alike_43 : decode cX6_alike 43 = .ok (.istore_n 1, 1) := by decide +kernel
theorem dX6_alike_44 : decode cX6_alike 44 = .ok (.iinc 3 1, 3) := by decide +kernel
theorem dX6_alike_47 : decode cX6_alike 47 = .ok (.goto (-28), 3) := by decide +kernel
theorem dX6_alike_50 : decode cX6_alike 50 = .ok (.iload_n 2, 1) := by decide +kernel
theorem dX6_alike_51 : decode cX6_alike 51 = .ok (.iload_n 1, 1) := by decide +kernel
theorem dX6_alike_52 : decode cX6_alike 52 = .ok (.idiv, 1) := by decide +kernel
theorem dX6_alike_53 : decode cX6_alike 53 = .ok (.ireturn, 1) := by decide +kernel
theorem dX6_findTwigs_0 : decode cX6_findTwigs 0 = .ok (.iconst 0, 1) := by decide +kernel
theorem dX6_findTwigs_1 : decode cX6_findTwigs 1 = .ok (.istore_n 1, 1) := by decide +kernel
theorem dX6_findTwigs_2 : decode cX6_findTwigs 2 = .ok (.iconst 0, 1) := by decide +kernel
theorem dX6_findTwigs_3 : decode cX6_findTwigs 3 = .ok (.istore_n 2, 1) := by decide +kernel
theorem dX6_findTwigs_4 : decode cX6_findTwigs 4 = .ok (.iload_n 2, 1) := by decide +kernel
theorem dX6_findTwigs_5 : decode cX6_findTwigs 5 = .ok (.aload_n 0, 1) := by decide +kernel
theorem dX6_findTwigs_6 : decode cX6_findTwigs 6 = .ok (.getfield 80, 3) := by decide +kernel
theorem dX6_findTwigs_9 : decode cX6_findTwigs 9 = .ok (.if_icmp .ge 57, 3) := by decide +kernel
theorem dX6_findTwigs_12 : decode cX6_findTwigs 12 = .ok (.iload_n 2, 1) := by decide +kernel
theorem dX6_findTwigs_13 : decode cX6_findTwigs 13 = .ok (.iconst 1, 1) := by decide +kernel
theorem dX6_findTwigs_14 : decode cX6_findTwigs 14 = .ok (.iadd, 1) := by decide +kernel
theorem dX6_findTwigs_15 : decode cX6_findTwigs 15 = .ok (.istore_n 3, 1) := by decide +kernel
theorem dX6_findTwigs_16 : decode cX6_findTwigs 16 = .ok (.iload_n 3, 1) := by decide +kernel
theorem dX6_findTwigs_17 : decode cX6_findTwigs 17 = .ok (.aload_n 0, 1) := by decide +kernel
theorem dX6_findTwigs_18 : decode cX6_findTwigs 18 = .ok (.getfield 80, 3) := by decide +kernel
theorem dX6_findTwigs_21 : decode cX6_findTwigs 21 = .ok (.if_icmp .ge 39, 3) := by decide +kernel
theorem dX6_findTwigs_24 : decode cX6_findTwigs 24 = .ok (.aload_n 0, 1) := by decide +kernel
theorem dX6_findTwigs_25 : decode cX6_findTwigs 25 = .ok (.getfield 19, 3) := by decide +kernel
theorem dX6_findTwigs_28 : decode cX6_findTwigs 28 = .ok (.iload_n 2, 1) := by decide +kernel
theorem dX6_findTwigs_29 : decode cX6_findTwigs 29 = .ok (.iaload, 1) := by decide +kernel
theorem dX6_findTwigs_30 : decode cX6_findTwigs 30 = .ok (.iload_n 3, 1) := by decide +kernel
theorem dX6_findTwigs_31 : decode cX6_findTwigs 31 = .ok (.invokestatic 87, 3) := by decide +kernel
theorem dX6_findTwigs_34 : decode cX6_findTwigs 34 = .ok (.ifCond .eq 20, 3) := by decide +kernel
theorem dX6_findTwigs_37 : decode cX6_findTwigs 37 = .ok (.aload_n 0, 1) := by decide +kernel
theorem dX6_findTwigs_38 : decode cX6_findTwigs 38 = .ok (.getfield 55, 3) := by decide +kernel
theorem dX6_findTwigs_41 : decode cX6_findTwigs 41 = .ok (.iload_n 1, 1) := by decide +kernel
theorem dX6_findTwigs_42 : decode cX6_findTwigs 42 = .ok (.iload_n 2, 1) := by decide +kernel
theorem dX6_findTwigs_43 : decode cX6_findTwigs 43 = .ok (.iastore, 1) := by decide +kernel
theorem dX6_findTwigs_44 : decode cX6_findTwigs 44 = .ok (.aload_n 0, 1) := by decide +kernel
theorem dX6_findTwigs_45 : decode cX6_findTwigs 45 = .ok (.getfield 58, 3) := by decide +kernel
theorem dX6_findTwigs_48 : decode cX6_findTwigs 48 = .ok (.iload_n 1, 1) := by decide +kernel
theorem dX6_findTwigs_49 : decode cX6_findTwigs 49 = .ok (.iload_n 3, 1) := by decide +kernel
theorem dX6_findTwigs_50 : decode cX6_findTwigs 50 = .ok (.iastore, 1) := by decide +kernel
theorem dX6_findTwigs_51 : decode cX6_findTwigs 51 = .ok (.iinc 1 1, 3) := by decide +kernel
theorem dX6_findTwigs_54 : decode cX6_findTwigs 54 = .ok (.iinc 3 1, 3) := by decide +kernel
theorem dX6_findTwigs_57 : decode cX6_findTwigs 57 = .ok (.goto (-41), 3) := by decide +kernel
theorem dX6_findTwigs_60 : decode cX6_findTwigs 60 = .ok (.iinc 2 1, 3) := by decide +kernel
theorem dX6_findTwigs_63 : decode cX6_findTwigs 63 = .ok (.goto (-59), 3) := by decide +kernel
theorem dX6_findTwigs_66 : decode cX6_findTwigs 66 = .ok (.iload_n 1, 1) := by decide +kernel
theorem dX6_findTwigs_67 : decode cX6_findTwigs 67 = .ok (.ireturn, 1) := by decide +kernel
theorem dX6_pairs_0 : decode cX6_pairs 0 = .ok (.aload_n 0, 1) := by decide +kernel
theorem dX6_pairs_1 : decode cX6_pairs 1 = .ok (.getfield 80, 3) := by decide +kernel
theorem dX6_pairs_4 : decode cX6_pairs 4 = .ok (.ifCond .ne 6, 3) := by decide +kernel
theorem dX6_pairs_7 : decode cX6_pairs 7 = .ok (.bipush (-3), 2) := by decide +kernel
theorem dX6_pairs_9 : decode cX6_pairs 9 = .ok (.ireturn, 1) := by decide +kernel
theorem dX6_pairs_10 : decode cX6_pairs 10 = .ok (.aload_n 0, 1) := by decide +kernel
theorem dX6_pairs_11 : decode cX6_pairs 11 = .ok (.invokevirtual 195, 3) := by decide +kernel
theorem dX6_pairs_14 : decode cX6_pairs 14 = .ok (.istore_n 1, 1) := by decide +kernel
theorem dX6_pairs_15 : decode cX6_pairs 15 = .ok (.iconst 0, 1) := by decide +kernel
theorem dX6_pairs_16 : decode cX6_pairs 16 = .ok (.istore_n 2, 1) := by decide +kernel
theorem dX6_pairs_17 : decode cX6_pairs 17 = .ok (.iconst 0, 1) := by decide +kernel
theorem dX6_pairs_18 : decode cX6_pairs 18 = .ok (.istore_n 3, 1) := by decide +kernel
theorem dX6_pairs_19 : decode cX6_pairs 19 = .ok (.iload_n 3, 1) := by decide +kernel
theorem dX6_pairs_20 : decode cX6_pairs 20 = .ok (.iconst 1, 1) := by decide +kernel
theorem dX6_pairs_21 : decode cX6_pairs 21 = .ok (.iload_n 1, 1) := by decide +kernel
theorem dX6_pairs_22 : decode cX6_pairs 22 = .ok (.ishl, 1) := by decide +kernel
theorem dX6_pairs_23 : decode cX6_pairs 23 = .ok (.if_icmp .ge 113, 3) := by decide +kernel
theorem dX6_pairs_26 : decode cX6_pairs 26 = .ok (.iconst 0, 1) := by decide +kernel
theorem dX6_pairs_27 : decode cX6_pairs 27 = .ok (.istore 4, 2) := by decide +kernel
theorem dX6_pairs_29 : decode cX6_pairs 29 = .ok (.iconst 1, 1) := by decide +kernel
theorem dX6_pairs_30 : decode cX6_pairs 30 = .ok (.istore 5, 2) := by decide +kernel
theorem dX6_pairs_32 : decode cX6_pairs 32 = .ok (.iconst 0, 1) := by decide +kernel
theorem dX6_pairs_33 : decode cX6_pairs 33 = .ok (.istore 6, 2) := by decide +kernel
theorem dX6_pairs_35 : decode cX6_pairs 35 = .ok (.iload 6, 2) := by decide +kernel
theorem dX6_pairs_37 : decode cX6_pairs 37 = .ok (.iload_n 1, 1) := by decide +kernel
theorem dX6_pairs_38 : decode cX6_pairs 38 = .ok (.if_icmp .ge 70, 3) := by decide +kernel
theorem dX6_pairs_41 : decode cX6_pairs 41 = .ok (.iload 5, 2) := by decide +kernel
theorem dX6_pairs_43 : decode cX6_pairs 43 = .ok (.ifCond .eq 65, 3) := by decide +kernel
theorem dX6_pairs_46 : decode cX6_pairs 46 = .ok (.iload_n 3, 1) := by decide +kernel
theorem dX6_pairs_47 : decode cX6_pairs 47 = .ok (.iload 6, 2) := by decide +kernel
theorem dX6_pairs_49 : decode cX6_pairs 49 = .ok (.invokestatic 87, 3) := by decide +kernel
theorem dX6_pairs_52 : decode cX6_pairs 52 = .ok (.ifCond .eq 25, 3) := by decide +kernel
theorem dX6_pairs_55 : decode cX6_pairs 55 = .ok (.iconst 1, 1) := by decide +kernel
theorem dX6_pairs_56 : decode cX6_pairs 56 = .ok (.aload_n 0, 1) := by decide +kernel
theorem dX6_pairs_57 : decode cX6_pairs 57 = .ok (.getfield 55, 3) := by decide +kernel
theorem dX6_pairs_60 : decode cX6_pairs 60 = .ok (.iload 6, 2) := by decide +kernel
theorem dX6_pairs_62 : decode cX6_pairs 62 = .ok (.iaload, 1) := by decide +kernel
theorem dX6_pairs_63 : decode cX6_pairs 63 = .ok (.ishl, 1) := by decide +kernel
theorem dX6_pairs_64 : decode cX6_pairs 64 = .ok (.iconst 1, 1) := by decide +kernel
theorem dX6_pairs_65 : decode cX6_pairs 65 = .ok (.aload_n 0, 1) := by decide +kernel
theorem dX6_pairs_66 : decode cX6_pairs 66 = .ok (.getfield 58, 3) := by decide +kernel
theorem dX6_pairs_69 : decode cX6_pairs 69 = .ok (.iload 6, 2) := by decide +kernel
theorem dX6_pairs_71 : decode cX6_pairs 71 = .ok (.iaload, 1) := by decide +kernel
theorem dX6_pairs_72 : decode cX6_pairs 72 = .ok (.ishl, 1) := by decide +kernel
theorem dX6_pairs_73 : decode cX6_pairs 73 = .ok (.ior, 1) := by decide +kernel
theorem dX6_pairs_74 : decode cX6_pairs 74 = .ok (.goto 4, 3) := by decide +kernel
theorem dX6_pairs_77 : decode cX6_pairs 77 = .ok (.iconst 0, 1) := by decide +kernel
theorem dX6_pairs_78 : decode cX6_pairs 78 = .ok (.istore 7, 2) := by decide +kernel
theorem dX6_pairs_80 : decode cX6_pairs 80 = .ok (.iload 4, 2) := by decide +kernel
theorem dX6_pairs_82 : decode cX6_pairs 82 = .ok (.iload 7, 2) := by decide +kernel
theorem dX6_pairs_84 : decode cX6_pairs 84 = .ok (.iand, 1) := by decide +kernel
theorem dX6_pairs_85 : decode cX6_pairs 85 = .ok (.ifCond .ne 7, 3) := by decide +kernel
theorem dX6_pairs_88 : decode cX6_pairs 88 = .ok (.iconst 1, 1) := by decide +kernel
theorem dX6_pairs_89 : decode cX6_pairs 89 = .ok (.goto 4, 3) := by decide +kernel
theorem dX6_pairs_92 : decode cX6_pairs 92 = .ok (.iconst 0, 1) := by decide +kernel
theorem dX6_pairs_93 : decode cX6_pairs 93 = .ok (.istore 5, 2) := by decide +kernel
theorem dX6_pairs_95 : decode cX6_pairs 95 = .ok (.iload 4, 2) := by decide +kernel
theorem dX6_pairs_97 : decode cX6_pairs 97 = .ok (.iload 7, 2) := by decide +kernel
theorem dX6_pairs_99 : decode cX6_pairs 99 = .ok (.ior, 1) := by decide +kernel
theorem dX6_pairs_100 : decode cX6_pairs 100 = .ok (.istore 4, 2) := by decide +kernel
theorem dX6_pairs_102 : decode cX6_pairs 102 = .ok (.iinc 6 1, 3) := by decide +kernel
theorem dX6_pairs_105 : decode cX6_pairs 105 = .ok (.goto (-70), 3) := by decide +kernel
theorem dX6_pairs_108 : decode cX6_pairs 108 = .ok (.iload 5, 2) := by decide +kernel
theorem dX6_pairs_110 : decode cX6_pairs 110 = .ok (.ifCond .eq 18, 3) := by decide +kernel
theorem dX6_pairs_113 : decode cX6_pairs 113 = .ok (.iload_n 3, 1) := by decide +kernel
theorem dX6_pairs_114 : decode cX6_pairs 114 = .ok (.invokestatic 140, 3) := by decide +kernel
theorem dX6_pairs_117 : decode cX6_pairs 117 = .ok (.iload_n 2, 1) := by decide +kernel
theorem dX6_pairs_118 : decode cX6_pairs 118 = .ok (.if_icmp .le 10, 3) := by decide +kernel
theorem dX6_pairs_121 : decode cX6_pairs 121 = .ok (.iload_n 3, 1) := by decide +kernel
theorem dX6_pairs_122 : decode cX6_pairs 122 = .ok (.invokestatic 140, 3) := by decide +kernel
theorem dX6_pairs_125 : decode cX6_pairs 125 = .ok (.goto 4, 3) := by decide +kernel
theorem dX6_pairs_128 : decode cX6_pairs 128 = .ok (.iload_n 2, 1) := by decide +kernel
theorem dX6_pairs_129 : decode cX6_pairs 129 = .ok (.istore_n 2, 1) := by decide +kernel
theorem dX6_pairs_130 : decode cX6_pairs 130 = .ok (.iinc 3 1, 3) := by decide +kernel
theorem dX6_pairs_133 : decode cX6_pairs 133 = .ok (.goto (-114), 3) := by decide +kernel
theorem dX6_pairs_136 : decode cX6_pairs 136 = .ok (.iload_n 2, 1) := by decide +kernel
theorem dX6_pairs_137 : decode cX6_pairs 137 = .ok (.ireturn, 1) := by decide +kernel
theorem dX6_loners_0 : decode cX6_loners 0 = .ok (.iload_n 1, 1) := by decide +kernel
theorem dX6_loners_1 : decode cX6_loners 1 = .ok (.iconst 0, 1) := by decide +kernel
theorem dX6_loners_2 : decode cX6_loners 2 = .ok (.iconst 1, 1) := by decide +kernel
theorem dX6_loners_3 : decode cX6_loners 3 = .ok (.invokestatic 76, 3) := by decide +kernel
theorem dX6_loners_6 : decode cX6_loners 6 = .ok (.ifCond .ne 6, 3) := by decide +kernel
theorem dX6_loners_9 : decode cX6_loners 9 = .ok (.bipush (-2), 2) := by decide +kernel
theorem dX6_loners_11 : decode cX6_loners 11 = .ok (.ireturn, 1) := by decide +kernel
theorem dX6_loners_12 : decode cX6_loners 12 = .ok (.aload_n 0, 1) := by decide +kernel
theorem dX6_loners_13 : decode cX6_loners 13 = .ok (.getfield 80, 3) := by decide +kernel
theorem dX6_loners_16 : decode cX6_loners 16 = .ok (.ifCond .ne 6, 3) := by decide +kernel
theorem dX6_loners_19 : decode cX6_loners 19 = .ok (.bipush (-3), 2) := by decide +kernel
theorem dX6_loners_21 : decode cX6_loners 21 = .ok (.ireturn, 1) := by decide +kernel
theorem dX6_loners_22 : decode cX6_loners 22 = .ok (.iconst 0, 1) := by decide +kernel
theorem dX6_loners_23 : decode cX6_loners 23 = .ok (.istore_n 2, 1) := by decide +kernel
theorem dX6_loners_24 : decode cX6_loners 24 = .ok (.iconst 0, 1) := by decide +kernel
theorem dX6_loners_25 : decode cX6_loners 25 = .ok (.istore_n 3, 1) := by decide +kernel
theorem dX6_loners_26 : decode cX6_loners 26 = .ok (.iconst 0, 1) := by decide +kernel
theorem dX6_loners_27 : decode cX6_loners 27 = .ok (.istore 4, 2) := by decide +kernel
theorem dX6_loners_29 : decode cX6_loners 29 = .ok (.iload 4, 2) := by decide +kernel
theorem dX6_loners_31 : decode cX6_loners 31 = .ok (.iconst 1, 1) := by decide +kernel
theorem dX6_loners_32 : decode cX6_loners 32 = .ok (.aload_n 0, 1) := by decide +kernel
theorem dX6_loners_33 : decode cX6_loners 33 = .ok (.getfield 80, 3) := by decide +kernel
theorem dX6_loners_36 : decode cX6_loners 36 = .ok (.ishl, 1) := by decide +kernel
theorem dX6_loners_37 : decode cX6_loners 37 = .ok (.if_icmp .ge 84, 3) := by decide +kernel
theorem dX6_loners_40 : decode cX6_loners 40 = .ok (.iconst 0, 1) := by decide +kernel
theorem dX6_loners_41 : decode cX6_loners 41 = .ok (.istore 5, 2) := by decide +kernel
theorem dX6_loners_43 : decode cX6_loners 43 = .ok (.iconst 0, 1) := by decide +kernel
theorem dX6_loners_44 : decode cX6_loners 44 = .ok (.istore 6, 2) := by decide +kernel
theorem dX6_loners_46 : decode cX6_loners 46 = .ok (.iload 6, 2) := by decide +kernel
theorem dX6_loners_48 : decode cX6_loners 48 = .ok (.aload_n 0, 1) := by decide +kernel
theorem dX6_loners_49 : decode cX6_loners 49 = .ok (.getfield 80, 3) := by decide +kernel
theorem dX6_loners_52 : decode cX6_loners 52 = .ok (.if_icmp .ge 35, 3) := by decide +kernel
theorem dX6_loners_55 : decode cX6_loners 55 = .ok (.iload 5, 2) := by decide +kernel
theorem dX6_loners_57 : decode cX6_loners 57 = .ok (.iload 4, 2) := by decide +kernel
theorem dX6_loners_59 : decode cX6_loners 59 = .ok (.iload 6, 2) := by decide +kernel
theorem dX6_loners_61 : decode cX6_loners 61 = .ok (.invokestatic 87, 3) := by decide +kernel
theorem dX6_loners_64 : decode cX6_loners 64 = .ok (.ifCond .eq 13, 3) := by decide +kernel
theorem dX6_loners_67 : decode cX6_loners 67 = .ok (.aload_n 0, 1) := by decide +kernel
theorem dX6_loners_68 : decode cX6_loners 68 = .ok (.getfield 19, 3) := by decide +kernel
theorem dX6_loners_71 : decode cX6_loners 71 = .ok (.iload 6, 2) := by decide +kernel
theorem dX6_loners_73 : decode cX6_loners 73 = .ok (.iaload, 1) := by decide +kernel
theorem dX6_loners_74 : decode cX6_loners 74 = .ok (.goto 4, 3) := by decide +kernel
theorem dX6_loners_77 : decode cX6_loners 77 = .ok (.iconst 0, 1) := by decide +kernel
theorem dX6_loners_78 : decode cX6_loners 78 = .ok (.ior, 1) := by decide +kernel
theorem dX6_loners_79 : decode cX6_loners 79 = .ok (.istore 5, 2) := by decide +kernel
theorem dX6_loners_81 : decode cX6_loners 81 = .ok (.iinc 6 1, 3) := by decide +kernel
theorem dX6_loners_84 : decode cX6_loners 84 = .ok (.goto (-38), 3) := by decide +kernel
theorem dX6_loners_87 : decode cX6_loners 87 = .ok (.iload 5, 2) := by decide +kernel
theorem dX6_loners_89 : decode cX6_loners 89 = .ok (.iload 4, 2) := by decide +kernel
theorem dX6_loners_91 : decode cX6_loners 91 = .ok (.iand, 1) := by decide +kernel
theorem dX6_loners_92 : decode cX6_loners 92 = .ok (.ifCond .ne 23, 3) := by decide +kernel
theorem dX6_loners_95 : decode cX6_loners 95 = .ok (.aload_n 0, 1) := by decide +kernel
theorem dX6_loners_96 : decode cX6_loners 96 = .ok (.iload 4, 2) := by decide +kernel
theorem dX6_loners_98 : decode cX6_loners 98 = .ok (.invokevirtual 181, 3) := by decide +kernel
theorem dX6_loners_101 : decode cX6_loners 101 = .ok (.iload_n 3, 1) := by decide +kernel
theorem dX6_loners_102 : decode cX6_loners 102 = .ok (.if_icmp .le 13, 3) := by decide +kernel
theorem dX6_loners_105 : decode cX6_loners 105 = .ok (.iload 4, 2) := by decide +kernel
theorem dX6_loners_107 : decode cX6_loners 107 = .ok (.istore_n 2, 1) := by decide +kernel
theorem dX6_loners_108 : decode cX6_loners 108 = .ok (.aload_n 0, 1) := by decide +kernel
theorem dX6_loners_109 : decode cX6_loners 109 = .ok (.iload 4, 2) := by decide +kernel
theorem dX6_loners_111 : decode cX6_loners 111 = .ok (.invokevirtual 181, 3) := by decide +kernel
theorem dX6_loners_114 : decode cX6_loners 114 = .ok (.istore_n 3, 1) := by decide +kernel
theorem dX6_loners_115 : decode cX6_loners 115 = .ok (.iinc 4 1, 3) := by decide +kernel
theorem dX6_loners_118 : decode cX6_loners 118 = .ok (.goto (-89), 3) := by decide +kernel
theorem dX6_loners_121 : decode cX6_loners 121 = .ok (.iload_n 1, 1) := by decide +kernel
theorem dX6_loners_122 : decode cX6_loners 122 = .ok (.ifCond .ne 7, 3) := by decide +kernel
theorem dX6_loners_125 : decode cX6_loners 125 = .ok (.iload_n 3, 1) := by decide +kernel
theorem dX6_loners_126 : decode cX6_loners 126 = .ok (.goto 4, 3) := by decide +kernel
theorem dX6_loners_129 : decode cX6_loners 129 = .ok (.iload_n 2, 1) := by decide +kernel
theorem dX6_loners_130 : decode cX6_loners 130 = .ok (.ireturn, 1) := by decide +kernel
theorem dX6_part_0 : decode cX6_part 0 = .ok (.aload_n 0, 1) := by decide +kernel
theorem dX6_part_1 : decode cX6_part 1 = .ok (.iload_n 1, 1) := by decide +kernel
theorem dX6_part_2 : decode cX6_part 2 = .ok (.iload_n 2, 1) := by decide +kernel
theorem dX6_part_3 : decode cX6_part 3 = .ok (.invokevirtual 152, 3) := by decide +kernel
theorem dX6_part_6 : decode cX6_part 6 = .ok (.ifCond .ne 5, 3) := by decide +kernel
theorem dX6_part_9 : decode cX6_part 9 = .ok (.iconst (-1), 1) := by decide +kernel
theorem dX6_part_10 : decode cX6_part 10 = .ok (.ireturn, 1) := by decide +kernel
theorem dX6_part_11 : decode cX6_part 11 = .ok (.aload_n 0, 1) := by decide +kernel
theorem dX6_part_12 : decode cX6_part 12 = .ok (.getfield 19, 3) := by decide +kernel
theorem dX6_part_15 : decode cX6_part 15 = .ok (.iload_n 1, 1) := by decide +kernel
theorem dX6_part_16 : decode cX6_part 16 = .ok (.iaload, 1) := by decide +kernel
theorem dX6_part_17 : decode cX6_part 17 = .ok (.iload_n 2, 1) := by decide +kernel
theorem dX6_part_18 : decode cX6_part 18 = .ok (.invokestatic 87, 3) := by decide +kernel
theorem dX6_part_21 : decode cX6_part 21 = .ok (.ifCond .ne 6, 3) := by decide +kernel
theorem dX6_part_24 : decode cX6_part 24 = .ok (.bipush (-3), 2) := by decide +kernel
theorem dX6_part_26 : decode cX6_part 26 = .ok (.ireturn, 1) := by decide +kernel
theorem dX6_part_27 : decode cX6_part 27 = .ok (.aload_n 0, 1) := by decide +kernel
theorem dX6_part_28 : decode cX6_part 28 = .ok (.invokevirtual 146, 3) := by decide +kernel
theorem dX6_part_31 : decode cX6_part 31 = .ok (.iconst 0, 1) := by decide +kernel
theorem dX6_part_32 : decode cX6_part 32 = .ok (.istore_n 3, 1) := by decide +kernel
theorem dX6_part_33 : decode cX6_part 33 = .ok (.iconst 0, 1) := by decide +kernel
theorem dX6_part_34 : decode cX6_part 34 = .ok (.istore 4, 2) := by decide +kernel
theorem dX6_part_36 : decode cX6_part 36 = .ok (.iload 4, 2) := by decide +kernel
theorem dX6_part_38 : decode cX6_part 38 = .ok (.aload_n 0, 1) := by decide +kernel
theorem dX6_part_39 : decode cX6_part 39 = .ok (.getfield 80, 3) := by decide +kernel
theorem dX6_part_42 : decode cX6_part 42 = .ok (.if_icmp .ge 47, 3) := by decide +kernel
theorem dX6_part_45 : decode cX6_part 45 = .ok (.iload_n 3, 1) := by decide +kernel
theorem dX6_part_46 : decode cX6_part 46 = .ok (.aload_n 0, 1) := by decide +kernel
theorem dX6_part_47 : decode cX6_part 47 = .ok (.getfield 37, 3) := by decide +kernel
theorem dX6_part_50 : decode cX6_part 50 = .ok (.bipush 8, 2) := by decide +kernel
theorem dX6_part_52 : decode cX6_part 52 = .ok (.iload 4, 2) := by decide +kernel
theorem dX6_part_54 : decode cX6_part 54 = .ok (.imul, 1) := by decide +kernel
theorem dX6_part_55 : decode cX6_part 55 = .ok (.iload_n 1, 1) := by decide +kernel
theorem dX6_part_56 : decode cX6_part 56 = .ok (.iadd, 1) := by decide +kernel
theorem dX6_part_57 : decode cX6_part 57 = .ok (.iaload, 1) := by decide +kernel
theorem dX6_part_58 : decode cX6_part 58 = .ok (.aload_n 0, 1) := by decide +kernel
theorem dX6_part_59 : decode cX6_part 59 = .ok (.getfield 37, 3) := by decide +kernel
theorem dX6_part_62 : decode cX6_part 62 = .ok (.bipush 8, 2) := by decide +kernel
theorem dX6_part_64 : decode cX6_part 64 = .ok (.iload 4, 2) := by decide +kernel
theorem dX6_part_66 : decode cX6_part 66 = .ok (.imul, 1) := by decide +kernel
theorem dX6_part_67 : decode cX6_part 67 = .ok (.iload_n 2, 1) := by decide +kernel
theorem dX6_part_68 : decode cX6_part 68 = .ok (.iadd, 1) := by decide +kernel
theorem dX6_part_69 : decode cX6_part 69 = .ok (.iaload, 1) := by decide +kernel
theorem dX6_part_70 : decode cX6_part 70 = .ok (.if_icmp .ge 10, 3) := by decide +kernel
theorem dX6_part_73 : decode cX6_part 73 = .ok (.iconst 1, 1) := by decide +kernel
theorem dX6_part_74 : decode cX6_part 74 = .ok (.iload 4, 2) := by decide +kernel
theorem dX6_part_76 : decode cX6_part 76 = .ok (.ishl, 1) := by decide +kernel
theorem dX6_part_77 : decode cX6_part 77 = .ok (.goto 4, 3) := by decide +kernel
theorem dX6_part_80 : decode cX6_part 80 = .ok (.iconst 0, 1) := by decide +kernel
theorem dX6_part_81 : decode cX6_part 81 = .ok (.ior, 1) := by decide +kernel
theorem dX6_part_82 : decode cX6_part 82 = .ok (.istore_n 3, 1) := by decide +kernel
theorem dX6_part_83 : decode cX6_part 83 = .ok (.iinc 4 1, 3) := by decide +kernel
theorem dX6_part_86 : decode cX6_part 86 = .ok (.goto (-50), 3) := by decide +kernel
theorem dX6_part_89 : decode cX6_part 89 = .ok (.aload_n 0, 1) := by decide +kernel
theorem dX6_part_90 : decode cX6_part 90 = .ok (.iload_n 3, 1) := by decide +kernel
theorem dX6_part_91 : decode cX6_part 91 = .ok (.invokevirtual 181, 3) := by decide +kernel
theorem dX6_part_94 : decode cX6_part 94 = .ok (.ireturn, 1) := by decide +kernel
theorem dX6_reading_0 : decode cX6_reading 0 = .ok (.aload_n 0, 1) := by decide +kernel
theorem dX6_reading_1 : decode cX6_reading 1 = .ok (.iload_n 1, 1) := by decide +kernel
theorem dX6_reading_2 : decode cX6_reading 2 = .ok (.invokevirtual 83, 3) := by decide +kernel
theorem dX6_reading_5 : decode cX6_reading 5 = .ok (.ifCond .eq 11, 3) := by decide +kernel
theorem dX6_reading_8 : decode cX6_reading 8 = .ok (.aload_n 0, 1) := by decide +kernel
theorem dX6_reading_9 : decode cX6_reading 9 = .ok (.iload_n 2, 1) := by decide +kernel
theorem dX6_reading_10 : decode cX6_reading 10 = .ok (.invokevirtual 83, 3) := by decide +kernel
theorem dX6_reading_13 : decode cX6_reading 13 = .ok (.ifCond .ne 5, 3) := by decide +kernel
theorem dX6_reading_16 : decode cX6_reading 16 = .ok (.iconst (-1), 1) := by decide +kernel
theorem dX6_reading_17 : decode cX6_reading 17 = .ok (.ireturn, 1) := by decide +kernel
theorem dX6_reading_18 : decode cX6_reading 18 = .ok (.iload_n 3, 1) := by decide +kernel
theorem dX6_reading_19 : decode cX6_reading 19 = .ok (.iconst 0, 1) := by decide +kernel
theorem dX6_reading_20 : decode cX6_reading 20 = .ok (.sipush 200, 3) := by decide +kernel
theorem dX6_reading_23 : decode cX6_reading 23 = .ok (.invokestatic 76, 3) := by decide +kernel
theorem dX6_reading_26 : decode cX6_reading 26 = .ok (.ifCond .ne 6, 3) := by decide +kernel
theorem dX6_reading_29 : decode cX6_reading 29 = .ok (.bipush (-2), 2) := by decide +kernel
theorem dX6_reading_31 : decode cX6_reading 31 = .ok (.ireturn, 1) := by decide +kernel
theorem dX6_reading_32 : decode cX6_reading 32 = .ok (.aload_n 0, 1) := by decide +kernel
theorem dX6_reading_33 : decode cX6_reading 33 = .ok (.getfield 120, 3) := by decide +kernel
theorem dX6_reading_36 : decode cX6_reading 36 = .ok (.bipush 8, 2) := by decide +kernel
theorem dX6_reading_38 : decode cX6_reading 38 = .ok (.if_icmp .ne 6, 3) := by decide +kernel
theorem dX6_reading_41 : decode cX6_reading 41 = .ok (.bipush (-4), 2) := by decide +kernel
theorem dX6_reading_43 : decode cX6_reading 43 = .ok (.ireturn, 1) := by decide +kernel
theorem dX6_reading_44 : decode cX6_reading 44 = .ok (.aload_n 0, 1) := by decide +kernel
theorem dX6_reading_45 : decode cX6_reading 45 = .ok (.getfield 61, 3) := by decide +kernel
theorem dX6_reading_48 : decode cX6_reading 48 = .ok (.aload_n 0, 1) := by decide +kernel
theorem dX6_reading_49 : decode cX6_reading 49 = .ok (.getfield 120, 3) := by decide +kernel
theorem dX6_reading_52 : decode cX6_reading 52 = .ok (.iload_n 1, 1) := by decide +kernel
theorem dX6_reading_53 : decode cX6_reading 53 = .ok (.iastore, 1) := by decide +kernel
theorem dX6_reading_54 : decode cX6_reading 54 = .ok (.aload_n 0, 1) := by decide +kernel
theorem dX6_reading_55 : decode cX6_reading 55 = .ok (.getfield 64, 3) := by decide +kernel
theorem dX6_reading_58 : decode cX6_reading 58 = .ok (.aload_n 0, 1) := by decide +kernel
theorem dX6_reading_59 : decode cX6_reading 59 = .ok (.getfield 120, 3) := by decide +kernel
theorem dX6_reading_62 : decode cX6_reading 62 = .ok (.iload_n 2, 1) := by decide +kernel
theorem dX6_reading_63 : decode cX6_reading 63 = .ok (.iastore, 1) := by decide +kernel
theorem dX6_reading_64 : decode cX6_reading 64 = .ok (.aload_n 0, 1) := by decide +kernel
theorem dX6_reading_65 : decode cX6_reading 65 = .ok (.getfield 67, 3) := by decide +kernel
theorem dX6_reading_68 : decode cX6_reading 68 = .ok (.aload_n 0, 1) := by decide +kernel
theorem dX6_reading_69 : decode cX6_reading 69 = .ok (.getfield 120, 3) := by decide +kernel
theorem dX6_reading_72 : decode cX6_reading 72 = .ok (.iload_n 3, 1) := by decide +kernel
theorem dX6_reading_73 : decode cX6_reading 73 = .ok (.iastore, 1) := by decide +kernel
theorem dX6_reading_74 : decode cX6_reading 74 = .ok (.aload_n 0, 1) := by decide +kernel
theorem dX6_reading_75 : decode cX6_reading 75 = .ok (.dup, 1) := by decide +kernel
theorem dX6_reading_76 : decode cX6_reading 76 = .ok (.getfield 120, 3) := by decide +kernel
theorem dX6_reading_79 : decode cX6_reading 79 = .ok (.iconst 1, 1) := by decide +kernel
theorem dX6_reading_80 : decode cX6_reading 80 = .ok (.iadd, 1) := by decide +kernel
theorem dX6_reading_81 : decode cX6_reading 81 = .ok (.putfield 120, 3) := by decide +kernel
theorem dX6_reading_84 : decode cX6_reading 84 = .ok (.aload_n 0, 1) := by decide +kernel
theorem dX6_reading_85 : decode cX6_reading 85 = .ok (.getfield 120, 3) := by decide +kernel
theorem dX6_reading_88 : decode cX6_reading 88 = .ok (.iconst 1, 1) := by decide +kernel
theorem dX6_reading_89 : decode cX6_reading 89 = .ok (.isub, 1) := by decide +kernel
theorem dX6_reading_90 : decode cX6_reading 90 = .ok (.ireturn, 1) := by decide +kernel
theorem dX6_back_0 : decode cX6_back 0 = .ok (.iload_n 1, 1) := by decide +kernel
theorem dX6_back_1 : decode cX6_back 1 = .ok (.iconst 0, 1) := by decide +kernel
theorem dX6_back_2 : decode cX6_back 2 = .ok (.aload_n 0, 1) := by decide +kernel
theorem dX6_back_3 : decode cX6_back 3 = .ok (.getfield 120, 3) := by decide +kernel
theorem dX6_back_6 : decode cX6_back 6 = .ok (.invokestatic 76, 3) := by decide +kernel
theorem dX6_back_9 : decode cX6_back 9 = .ok (.ifCond .ne 6, 3) := by decide +kernel
theorem dX6_back_12 : decode cX6_back 12 = .ok (.bipush (-2), 2) := by decide +kernel
theorem dX6_back_14 : decode cX6_back 14 = .ok (.ireturn, 1) := by decide +kernel
theorem dX6_back_15 : decode cX6_back 15 = .ok (.aload_n 0, 1) := by decide +kernel
theorem dX6_back_16 : decode cX6_back 16 = .ok (.dup, 1) := by decide +kernel
theorem dX6_back_17 : decode cX6_back 17 = .ok (.getfield 120, 3) := by decide +kernel
theorem dX6_back_20 : decode cX6_back 20 = .ok (.iload_n 1, 1) := by decide +kernel
theorem dX6_back_21 : decode cX6_back 21 = .ok (.isub, 1) := by decide +kernel
theorem dX6_back_22 : decode cX6_back 22 = .ok (.putfield 120, 3) := by decide +kernel
theorem dX6_back_25 : decode cX6_back 25 = .ok (.aload_n 0, 1) := by decide +kernel
theorem dX6_back_26 : decode cX6_back 26 = .ok (.getfield 120, 3) := by decide +kernel
theorem dX6_back_29 : decode cX6_back 29 = .ok (.ireturn, 1) := by decide +kernel
theorem dX6_wayOf_0 : decode cX6_wayOf 0 = .ok (.iconst 0, 1) := by decide +kernel
theorem dX6_wayOf_1 : decode cX6_wayOf 1 = .ok (.istore_n 3, 1) := by decide +kernel
theorem dX6_wayOf_2 : decode cX6_wayOf 2 = .ok (.iconst 0, 1) := by decide +kernel
theorem dX6_wayOf_3 : decode cX6_wayOf 3 = .ok (.istore 4, 2) := by decide +kernel
theorem dX6_wayOf_5 : decode cX6_wayOf 5 = .ok (.iload 4, 2) := by decide +kernel
theorem dX6_wayOf_7 : decode cX6_wayOf 7 = .ok (.aload_n 0, 1) := by decide +kernel
theorem dX6_wayOf_8 : decode cX6_wayOf 8 = .ok (.getfield 80, 3) := by decide +kernel
theorem dX6_wayOf_11 : decode cX6_wayOf 11 = .ok (.if_icmp .ge 71, 3) := by decide +kernel
theorem dX6_wayOf_14 : decode cX6_wayOf 14 = .ok (.aload_n 0, 1) := by decide +kernel
theorem dX6_wayOf_15 : decode cX6_wayOf 15 = .ok (.getfield 37, 3) := by decide +kernel
theorem dX6_wayOf_18 : decode cX6_wayOf 18 = .ok (.bipush 8, 2) := by decide +kernel
theorem dX6_wayOf_20 : decode cX6_wayOf 20 = .ok (.iload_n 1, 1) := by decide +kernel
theorem dX6_wayOf_21 : decode cX6_wayOf 21 = .ok (.imul, 1) := by decide +kernel
theorem dX6_wayOf_22 : decode cX6_wayOf 22 = .ok (.iload 4, 2) := by decide +kernel
theorem dX6_wayOf_24 : decode cX6_wayOf 24 = .ok (.iadd, 1) := by decide +kernel
theorem dX6_wayOf_25 : decode cX6_wayOf 25 = .ok (.iaload, 1) := by decide +kernel
theorem dX6_wayOf_26 : decode cX6_wayOf 26 = .ok (.aload_n 0, 1) := by decide +kernel
theorem dX6_wayOf_27 : decode cX6_wayOf 27 = .ok (.getfield 37, 3) := by decide +kernel
theorem dX6_wayOf_30 : decode cX6_wayOf 30 = .ok (.bipush 8, 2) := by decide +kernel
theorem dX6_wayOf_32 : decode cX6_wayOf 32 = .ok (.iload 4, 2) := by decide +kernel
theorem dX6_wayOf_34 : decode cX6_wayOf 34 = .ok (.imul, 1) := by decide +kernel
theorem dX6_wayOf_35 : decode cX6_wayOf 35 = .ok (.iload_n 2, 1) := by decide +kernel
theorem dX6_wayOf_36 : decode cX6_wayOf 36 = .ok (.iadd, 1) := by decide +kernel
theorem dX6_wayOf_37 : decode cX6_wayOf 37 = .ok (.iaload, 1) := by decide +kernel
theorem dX6_wayOf_38 : decode cX6_wayOf 38 = .ok (.iadd, 1) := by decide +kernel
theorem dX6_wayOf_39 : decode cX6_wayOf 39 = .ok (.aload_n 0, 1) := by decide +kernel
theorem dX6_wayOf_40 : decode cX6_wayOf 40 = .ok (.getfield 37, 3) := by decide +kernel
theorem dX6_wayOf_43 : decode cX6_wayOf 43 = .ok (.bipush 8, 2) := by decide +kernel
theorem dX6_wayOf_45 : decode cX6_wayOf 45 = .ok (.iload_n 1, 1) := by decide +kernel
theorem dX6_wayOf_46 : decode cX6_wayOf 46 = .ok (.imul, 1) := by decide +kernel
theorem dX6_wayOf_47 : decode cX6_wayOf 47 = .ok (.iload_n 2, 1) := by decide +kernel
theorem dX6_wayOf_48 : decode cX6_wayOf 48 = .ok (.iadd, 1) := by decide +kernel
theorem dX6_wayOf_49 : decode cX6_wayOf 49 = .ok (.iaload, 1) := by decide +kernel
theorem dX6_wayOf_50 : decode cX6_wayOf 50 = .ok (.if_icmp .ne 7, 3) := by decide +kernel
theorem dX6_wayOf_53 : decode cX6_wayOf 53 = .ok (.iconst 1, 1) := by decide +kernel
theorem dX6_wayOf_54 : decode cX6_wayOf 54 = .ok (.goto 4, 3) := by decide +kernel
theorem dX6_wayOf_57 : decode cX6_wayOf 57 = .ok (.iconst 0, 1) := by decide +kernel
theorem dX6_wayOf_58 : decode cX6_wayOf 58 = .ok (.istore 5, 2) := by decide +kernel
theorem dX6_wayOf_60 : decode cX6_wayOf 60 = .ok (.iload_n 3, 1) := by decide +kernel
theorem dX6_wayOf_61 : decode cX6_wayOf 61 = .ok (.iload 5, 2) := by decide +kernel
theorem dX6_wayOf_63 : decode cX6_wayOf 63 = .ok (.ifCond .eq 10, 3) := by decide +kernel
theorem dX6_wayOf_66 : decode cX6_wayOf 66 = .ok (.iconst 1, 1) := by decide +kernel
theorem dX6_wayOf_67 : decode cX6_wayOf 67 = .ok (.iload 4, 2) := by decide +kernel
theorem dX6_wayOf_69 : decode cX6_wayOf 69 = .ok (.ishl, 1) := by decide +kernel
theorem dX6_wayOf_70 : decode cX6_wayOf 70 = .ok (.goto 4, 3) := by decide +kernel
theorem dX6_wayOf_73 : decode cX6_wayOf 73 = .ok (.iconst 0, 1) := by decide +kernel
theorem dX6_wayOf_74 : decode cX6_wayOf 74 = .ok (.ior, 1) := by decide +kernel
theorem dX6_wayOf_75 : decode cX6_wayOf 75 = .ok (.istore_n 3, 1) := by decide +kernel
theorem dX6_wayOf_76 : decode cX6_wayOf 76 = .ok (.iinc 4 1, 3) := by decide +kernel
theorem dX6_wayOf_79 : decode cX6_wayOf 79 = .ok (.goto (-74), 3) := by decide +kernel
theorem dX6_wayOf_82 : decode cX6_wayOf 82 = .ok (.iload_n 3, 1) := by decide +kernel
theorem dX6_wayOf_83 : decode cX6_wayOf 83 = .ok (.ireturn, 1) := by decide +kernel
theorem dX6_areSo_0 : decode cX6_areSo 0 = .ok (.iconst 0, 1) := by decide +kernel
theorem dX6_areSo_1 : decode cX6_areSo 1 = .ok (.istore_n 1, 1) := by decide +kernel
theorem dX6_areSo_2 : decode cX6_areSo 2 = .ok (.iload_n 1, 1) := by decide +kernel
theorem dX6_areSo_3 : decode cX6_areSo 3 = .ok (.aload_n 0, 1) := by decide +kernel
theorem dX6_areSo_4 : decode cX6_areSo 4 = .ok (.getfield 120, 3) := by decide +kernel
theorem dX6_areSo_7 : decode cX6_areSo 7 = .ok (.if_icmp .ge 40, 3) := by decide +kernel
theorem dX6_areSo_10 : decode cX6_areSo 10 = .ok (.aload_n 0, 1) := by decide +kernel
theorem dX6_areSo_11 : decode cX6_areSo 11 = .ok (.aload_n 0, 1) := by decide +kernel
theorem dX6_areSo_12 : decode cX6_areSo 12 = .ok (.aload_n 0, 1) := by decide +kernel
theorem dX6_areSo_13 : decode cX6_areSo 13 = .ok (.getfield 61, 3) := by decide +kernel
theorem dX6_areSo_16 : decode cX6_areSo 16 = .ok (.iload_n 1, 1) := by decide +kernel
theorem dX6_areSo_17 : decode cX6_areSo 17 = .ok (.iaload, 1) := by decide +kernel
theorem dX6_areSo_18 : decode cX6_areSo 18 = .ok (.aload_n 0, 1) := by decide +kernel
theorem dX6_areSo_19 : decode cX6_areSo 19 = .ok (.getfield 64, 3) := by decide +kernel
theorem dX6_areSo_22 : decode cX6_areSo 22 = .ok (.iload_n 1, 1) := by decide +kernel
theorem dX6_areSo_23 : decode cX6_areSo 23 = .ok (.iaload, 1) := by decide +kernel
theorem dX6_areSo_24 : decode cX6_areSo 24 = .ok (.invokevirtual 198, 3) := by decide +kernel
theorem dX6_areSo_27 : decode cX6_areSo 27 = .ok (.invokevirtual 181, 3) := by decide +kernel
theorem dX6_areSo_30 : decode cX6_areSo 30 = .ok (.aload_n 0, 1) := by decide +kernel
theorem dX6_areSo_31 : decode cX6_areSo 31 = .ok (.getfield 67, 3) := by decide +kernel
theorem dX6_areSo_34 : decode cX6_areSo 34 = .ok (.iload_n 1, 1) := by decide +kernel
theorem dX6_areSo_35 : decode cX6_areSo 35 = .ok (.iaload, 1) := by decide +kernel
theorem dX6_areSo_36 : decode cX6_areSo 36 = .ok (.if_icmp .eq 5, 3) := by decide +kernel
theorem dX6_areSo_39 : decode cX6_areSo 39 = .ok (.iconst 0, 1) := by decide +kernel
theorem dX6_areSo_40 : decode cX6_areSo 40 = .ok (.ireturn, 1) := by decide +kernel
theorem dX6_areSo_41 : decode cX6_areSo 41 = .ok (.iinc 1 1, 3) := by decide +kernel
theorem dX6_areSo_44 : decode cX6_areSo 44 = .ok (.goto (-42), 3) := by decide +kernel
theorem dX6_areSo_47 : decode cX6_areSo 47 = .ok (.iconst 1, 1) := by decide +kernel
theorem dX6_areSo_48 : decode cX6_areSo 48 = .ok (.ireturn, 1) := by decide +kernel
theorem dX6_loadings_0 : decode cX6_loadings 0 = .ok (.aload_n 0, 1) := by decide +kernel
theorem dX6_loadings_1 : decode cX6_loadings 1 = .ok (.iload_n 1, 1) := by decide +kernel
theorem dX6_loadings_2 : decode cX6_loadings 2 = .ok (.invokevirtual 83, 3) := by decide +kernel
theorem dX6_loadings_5 : decode cX6_loadings 5 = .ok (.ifCond .ne 5, 3) := by decide +kernel
theorem dX6_loadings_8 : decode cX6_loadings 8 = .ok (.iconst (-1), 1) := by decide +kernel
theorem dX6_loadings_9 : decode cX6_loadings 9 = .ok (.ireturn, 1) := by decide +kernel
theorem dX6_loadings_10 : decode cX6_loadings 10 = .ok (.aload_n 0, 1) := by decide +kernel
theorem dX6_loadings_11 : decode cX6_loadings 11 = .ok (.invokevirtual 146, 3) := by decide +kernel
theorem dX6_loadings_14 : decode cX6_loadings 14 = .ok (.aload_n 0, 1) := by decide +kernel
theorem dX6_loadings_15 : decode cX6_loadings 15 = .ok (.getfield 25, 3) := by decide +kernel
theorem dX6_loadings_18 : decode cX6_loadings 18 = .ok (.iload_n 1, 1) := by decide +kernel
theorem dX6_loadings_19 : decode cX6_loadings 19 = .ok (.iaload, 1) := by decide +kernel
theorem dX6_loadings_20 : decode cX6_loadings 20 = .ok (.istore_n 2, 1) := by decide +kernel
theorem dX6_loadings_21 : decode cX6_loadings 21 = .ok (.iconst 0, 1) := by decide +kernel
theorem dX6_loadings_22 : decode cX6_loadings 22 = .ok (.istore_n 3, 1) := by decide +kernel
theorem dX6_loadings_23 : decode cX6_loadings 23 = .ok (.iconst 0, 1) := by decide +kernel
theorem dX6_loadings_24 : decode cX6_loadings 24 = .ok (.istore 4, 2) := by decide +kernel
theorem dX6_loadings_26 : decode cX6_loadings 26 = .ok (.iload 4, 2) := by decide +kernel
theorem dX6_loadings_28 : decode cX6_loadings 28 = .ok (.bipush 9, 2) := by decide +kernel
theorem dX6_loadings_30 : decode cX6_loadings 30 = .ok (.if_icmp .gt 35, 3) := by decide +kernel
theorem dX6_loadings_33 : decode cX6_loadings 33 = .ok (.aload_n 0, 1) := by decide +kernel
theorem dX6_loadings_34 : decode cX6_loadings 34 = .ok (.getfield 25, 3) := by decide +kernel
theorem dX6_loadings_37 : decode cX6_loadings 37 = .ok (.iload_n 1, 1) := by decide +kernel
theorem dX6_loadings_38 : decode cX6_loadings 38 = .ok (.iload 4, 2) := by decide +kernel
theorem dX6_loadings_40 : decode cX6_loadings 40 = .ok (.iastore, 1) := by decide +kernel
theorem dX6_loadings_41 : decode cX6_loadings 41 = .ok (.iload_n 3, 1) := by decide +kernel
theorem dX6_loadings_42 : decode cX6_loadings 42 = .ok (.aload_n 0, 1) := by decide +kernel
theorem dX6_loadings_43 : decode cX6_loadings 43 = .ok (.invokevirtual 201, 3) := by decide +kernel
theorem dX6_loadings_46 : decode cX6_loadings 46 = .ok (.ifCond .eq 10, 3) := by decide +kernel
theorem dX6_loadings_49 : decode cX6_loadings 49 = .ok (.iconst 1, 1) := by decide +kernel
theorem dX6_loadings_50 : decode cX6_loadings 50 = .ok (.iload 4, 2) := by decide +kernel
theorem dX6_loadings_52 : decode cX6_loadings 52 = .ok (.ishl, 1) := by decide +kernel
theorem dX6_loadings_53 : decode cX6_loadings 53 = .ok (.goto 4, 3) := by decide +kernel
theorem dX6_loadings_56 : decode cX6_loadings 56 = .ok (.iconst 0, 1) := by decide +kernel
theorem dX6_loadings_57 : decode cX6_loadings 57 = .ok (.ior, 1) := by decide +kernel
theorem dX6_loadings_58 : decode cX6_loadings 58 = .ok (.istore_n 3, 1) := by decide +kernel
theorem dX6_loadings_59 : decode cX6_loadings 59 = .ok (.iinc 4 1, 3) := by decide +kernel
theorem dX6_loadings_62 : decode cX6_loadings 62 = .ok (.goto (-36), 3) := by decide +kernel
theorem dX6_loadings_65 : decode cX6_loadings 65 = .ok (.aload_n 0, 1) := by decide +kernel
theorem dX6_loadings_66 : decode cX6_loadings 66 = .ok (.getfield 25, 3) := by decide +kernel
theorem dX6_loadings_69 : decode cX6_loadings 69 = .ok (.iload_n 1, 1) := by decide +kernel
theorem dX6_loadings_70 : decode cX6_loadings 70 = .ok (.iload_n 2, 1) := by decide +kernel
theorem dX6_loadings_71 : decode cX6_loadings 71 = .ok (.iastore, 1) := by decide +kernel
theorem dX6_loadings_72 : decode cX6_loadings 72 = .ok (.iload_n 3, 1) := by decide +kernel
theorem dX6_loadings_73 : decode cX6_loadings 73 = .ok (.ireturn, 1) := by decide +kernel
theorem dX6_kinds_0 : decode cX6_kinds 0 = .ok (.aload_n 0, 1) := by decide +kernel
theorem dX6_kinds_1 : decode cX6_kinds 1 = .ok (.iload_n 1, 1) := by decide +kernel
theorem dX6_kinds_2 : decode cX6_kinds 2 = .ok (.invokevirtual 83, 3) := by decide +kernel
theorem dX6_kinds_5 : decode cX6_kinds 5 = .ok (.ifCond .ne 5, 3) := by decide +kernel
theorem dX6_kinds_8 : decode cX6_kinds 8 = .ok (.iconst (-1), 1) := by decide +kernel
theorem dX6_kinds_9 : decode cX6_kinds 9 = .ok (.ireturn, 1) := by decide +kernel
theorem dX6_kinds_10 : decode cX6_kinds 10 = .ok (.aload_n 0, 1) := by decide +kernel
theorem dX6_kinds_11 : decode cX6_kinds 11 = .ok (.invokevirtual 146, 3) := by decide +kernel
theorem dX6_kinds_14 : decode cX6_kinds 14 = .ok (.aload_n 0, 1) := by decide +kernel
theorem dX6_kinds_15 : decode cX6_kinds 15 = .ok (.getfield 22, 3) := by decide +kernel
theorem dX6_kinds_18 : decode cX6_kinds 18 = .ok (.iload_n 1, 1) := by decide +kernel
theorem dX6_kinds_19 : decode cX6_kinds 19 = .ok (.iaload, 1) := by decide +kernel
theorem dX6_kinds_20 : decode cX6_kinds 20 = .ok (.istore_n 2, 1) := by decide +kernel
theorem dX6_kinds_21 : decode cX6_kinds 21 = .ok (.iconst 0, 1) := by decide +kernel
theorem dX6_kinds_22 : decode cX6_kinds 22 = .ok (.istore_n 3, 1) := by decide +kernel
theorem dX6_kinds_23 : decode cX6_kinds 23 = .ok (.iconst 0, 1) := by decide +kernel
theorem dX6_kinds_24 : decode cX6_kinds 24 = .ok (.istore 4, 2) := by decide +kernel
theorem dX6_kinds_26 : decode cX6_kinds 26 = .ok (.iload 4, 2) := by decide +kernel
theorem dX6_kinds_28 : decode cX6_kinds 28 = .ok (.iconst 3, 1) := by decide +kernel
theorem dX6_kinds_29 : decode cX6_kinds 29 = .ok (.if_icmp .ge 35, 3) := by decide +kernel
theorem dX6_kinds_32 : decode cX6_kinds 32 = .ok (.aload_n 0, 1) := by decide +kernel
theorem dX6_kinds_33 : decode cX6_kinds 33 = .ok (.getfield 22, 3) := by decide +kernel
theorem dX6_kinds_36 : decode cX6_kinds 36 = .ok (.iload_n 1, 1) := by decide +kernel
theorem dX6_kinds_37 : decode cX6_kinds 37 = .ok (.iload 4, 2) := by decide +kernel
theorem dX6_kinds_39 : decode cX6_kinds 39 = .ok (.iastore, 1) := by decide +kernel
theorem dX6_kinds_40 : decode cX6_kinds 40 = .ok (.iload_n 3, 1) := by decide +kernel
theorem dX6_kinds_41 : decode cX6_kinds 41 = .ok (.aload_n 0, 1) := by decide +kernel
theorem dX6_kinds_42 : decode cX6_kinds 42 = .ok (.invokevirtual 201, 3) := by decide +kernel
theorem dX6_kinds_45 : decode cX6_kinds 45 = .ok (.ifCond .eq 10, 3) := by decide +kernel
theorem dX6_kinds_48 : decode cX6_kinds 48 = .ok (.iconst 1, 1) := by decide +kernel
theorem dX6_kinds_49 : decode cX6_kinds 49 = .ok (.iload 4, 2) := by decide +kernel
theorem dX6_kinds_51 : decode cX6_kinds 51 = .ok (.ishl, 1) := by decide +kernel
theorem dX6_kinds_52 : decode cX6_kinds 52 = .ok (.goto 4, 3) := by decide +kernel
theorem dX6_kinds_55 : decode cX6_kinds 55 = .ok (.iconst 0, 1) := by decide +kernel
theorem dX6_kinds_56 : decode cX6_kinds 56 = .ok (.ior, 1) := by decide +kernel
theorem dX6_kinds_57 : decode cX6_kinds 57 = .ok (.istore_n 3, 1) := by decide +kernel
theorem dX6_kinds_58 : decode cX6_kinds 58 = .ok (.iinc 4 1, 3) := by decide +kernel
theorem dX6_kinds_61 : decode cX6_kinds 61 = .ok (.goto (-35), 3) := by decide +kernel
theorem dX6_kinds_64 : decode cX6_kinds 64 = .ok (.aload_n 0, 1) := by decide +kernel
theorem dX6_kinds_65 : decode cX6_kinds 65 = .ok (.getfield 22, 3) := by decide +kernel
theorem dX6_kinds_68 : decode cX6_kinds 68 = .ok (.iload_n 1, 1) := by decide +kernel
theorem dX6_kinds_69 : decode cX6_kinds 69 = .ok (.iload_n 2, 1) := by decide +kernel
theorem dX6_kinds_70 : decode cX6_kinds 70 = .ok (.iastore, 1) := by decide +kernel
theorem dX6_kinds_71 : decode cX6_kinds 71 = .ok (.iload_n 3, 1) := by decide +kernel
theorem dX6_kinds_72 : decode cX6_kinds 72 = .ok (.ireturn, 1) := by decide +kernel
theorem dX6_inLeastTerms_0 : decode cX6_inLeastTerms 0 = .ok (.lload_n 0, 1) := by decide +kernel
theorem dX6_inLeastTerms_1 : decode cX6_inLeastTerms 1 = .ok (.lstore 5, 2) := by decide +kernel
theorem dX6_inLeastTerms_3 : decode cX6_inLeastTerms 3 = .ok (.lload_n 2, 1) := by decide +kernel
theorem dX6_inLeastTerms_4 : decode cX6_inLeastTerms 4 = .ok (.lstore 7, 2) := by decide +kernel
theorem dX6_inLeastTerms_6 : decode cX6_inLeastTerms 6 = .ok (.lload 7, 2) := by decide +kernel
theorem dX6_inLeastTerms_8 : decode cX6_inLeastTerms 8 = .ok (.lconst 0, 1) := by decide +kernel
theorem dX6_inLeastTerms_9 : decode cX6_inLeastTerms 9 = .ok (.lcmp, 1) := by decide +kernel
theorem dX6_inLeastTerms_10 : decode cX6_inLeastTerms 10 = .ok (.ifCond .eq 21, 3) := by decide +kernel
theorem dX6_inLeastTerms_13 : decode cX6_inLeastTerms 13 = .ok (.lload 5, 2) := by decide +kernel
theorem dX6_inLeastTerms_15 : decode cX6_inLeastTerms 15 = .ok (.lload 7, 2) := by decide +kernel
theorem dX6_inLeastTerms_17 : decode cX6_inLeastTerms 17 = .ok (.lrem, 1) := by decide +kernel
theorem dX6_inLeastTerms_18 : decode cX6_inLeastTerms 18 = .ok (.lstore 9, 2) := by decide +kernel
theorem dX6_inLeastTerms_20 : decode cX6_inLeastTerms 20 = .ok (.lload 7, 2) := by decide +kernel
theorem dX6_inLeastTerms_22 : decode cX6_inLeastTerms 22 = .ok (.lstore 5, 2) := by decide +kernel
theorem dX6_inLeastTerms_24 : decode cX6_inLeastTerms 24 = .ok (.lload 9, 2) := by decide +kernel
theorem dX6_inLeastTerms_26 : decode cX6_inLeastTerms 26 = .ok (.lstore 7, 2) := by decide +kernel
theorem dX6_inLeastTerms_28 : decode cX6_inLeastTerms 28 = .ok (.goto (-22), 3) := by decide +kernel
theorem dX6_inLeastTerms_31 : decode cX6_inLeastTerms 31 = .ok (.iload 4, 2) := by decide +kernel
theorem dX6_inLeastTerms_33 : decode cX6_inLeastTerms 33 = .ok (.ifCond .ne 10, 3) := by decide +kernel
theorem dX6_inLeastTerms_36 : decode cX6_inLeastTerms 36 = .ok (.lload_n 0, 1) := by decide +kernel
theorem dX6_inLeastTerms_37 : decode cX6_inLeastTerms 37 = .ok (.lload 5, 2) := by decide +kernel
theorem dX6_inLeastTerms_39 : decode cX6_inLeastTerms 39 = .ok (.ldiv, 1) := by decide +kernel
theorem dX6_inLeastTerms_40 : decode cX6_inLeastTerms 40 = .ok (.goto 7, 3) := by decide +kernel
theorem dX6_inLeastTerms_43 : decode cX6_inLeastTerms 43 = .ok (.lload_n 2, 1) := by decide +kernel
theorem dX6_inLeastTerms_44 : decode cX6_inLeastTerms 44 = .ok (.lload 5, 2) := by decide +kernel
theorem dX6_inLeastTerms_46 : decode cX6_inLeastTerms 46 = .ok (.ldiv, 1) := by decide +kernel
theorem dX6_inLeastTerms_47 : decode cX6_inLeastTerms 47 = .ok (.lreturn, 1) := by decide +kernel
theorem dX6_odds_0 : decode cX6_odds 0 = .ok (.iload_n 1, 1) := by decide +kernel
theorem dX6_odds_1 : decode cX6_odds 1 = .ok (.iconst 0, 1) := by decide +kernel
theorem dX6_odds_2 : decode cX6_odds 2 = .ok (.bipush 7, 2) := by decide +kernel
theorem dX6_odds_4 : decode cX6_odds 4 = .ok (.invokestatic 76, 3) := by decide +kernel
theorem dX6_odds_7 : decode cX6_odds 7 = .ok (.ifCond .eq 19, 3) := by decide +kernel
theorem dX6_odds_10 : decode cX6_odds 10 = .ok (.iload_n 2, 1) := by decide +kernel
theorem dX6_odds_11 : decode cX6_odds 11 = .ok (.iconst 0, 1) := by decide +kernel
theorem dX6_odds_12 : decode cX6_odds 12 = .ok (.iconst 1, 1) := by decide +kernel
theorem dX6_odds_13 : decode cX6_odds 13 = .ok (.invokestatic 76, 3) := by decide +kernel
theorem dX6_odds_16 : decode cX6_odds 16 = .ok (.ifCond .eq 10, 3) := by decide +kernel
theorem dX6_odds_19 : decode cX6_odds 19 = .ok (.aload_n 0, 1) := by decide +kernel
theorem dX6_odds_20 : decode cX6_odds 20 = .ok (.getfield 80, 3) := by decide +kernel
theorem dX6_odds_23 : decode cX6_odds 23 = .ok (.ifCond .ne 7, 3) := by decide +kernel
theorem dX6_odds_26 : decode cX6_odds 26 = .ok (.ldc2_w 74, 3) := by decide +kernel
theorem dX6_odds_29 : decode cX6_odds 29 = .ok (.lreturn, 1) := by decide +kernel
theorem dX6_odds_30 : decode cX6_odds 30 = .ok (.aload_n 0, 1) := by decide +kernel
theorem dX6_odds_31 : decode cX6_odds 31 = .ok (.invokevirtual 146, 3) := by decide +kernel
theorem dX6_odds_34 : decode cX6_odds 34 = .ok (.iconst 0, 1) := by decide +kernel
theorem dX6_odds_35 : decode cX6_odds 35 = .ok (.istore_n 3, 1) := by decide +kernel
theorem dX6_odds_36 : decode cX6_odds 36 = .ok (.iconst 0, 1) := by decide +kernel
theorem dX6_odds_37 : decode cX6_odds 37 = .ok (.istore 4, 2) := by decide +kernel
theorem dX6_odds_39 : decode cX6_odds 39 = .ok (.iconst 0, 1) := by decide +kernel
theorem dX6_odds_40 : decode cX6_odds 40 = .ok (.istore 5, 2) := by decide +kernel
theorem dX6_odds_42 : decode cX6_odds 42 = .ok (.iload 5, 2) := by decide +kernel
theorem dX6_odds_44 : decode cX6_odds 44 = .ok (.aload_n 0, 1) := by decide +kernel
theorem dX6_odds_45 : decode cX6_odds 45 = .ok (.getfield 80, 3) := by decide +kernel
theorem dX6_odds_48 : decode cX6_odds 48 = .ok (.if_icmp .ge 60, 3) := by decide +kernel
theorem dX6_odds_51 : decode cX6_odds 51 = .ok (.iload 5, 2) := by decide +kernel
theorem dX6_odds_53 : decode cX6_odds 53 = .ok (.iconst 1, 1) := by decide +kernel
theorem dX6_odds_54 : decode cX6_odds 54 = .ok (.iadd, 1) := by decide +kernel
theorem dX6_odds_55 : decode cX6_odds 55 = .ok (.istore 6, 2) := by decide +kernel
theorem dX6_odds_57 : decode cX6_odds 57 = .ok (.iload 6, 2) := by decide +kernel
theorem dX6_odds_59 : decode cX6_odds 59 = .ok (.aload_n 0, 1) := by decide +kernel
theorem dX6_odds_60 : decode cX6_odds 60 = .ok (.getfield 80, 3) := by decide +kernel
theorem dX6_odds_63 : decode cX6_odds 63 = .ok (.if_icmp .ge 39, 3) := by decide +kernel
theorem dX6_odds_66 : decode cX6_odds 66 = .ok (.iinc 3 1, 3) := by decide +kernel
theorem dX6_odds_69 : decode cX6_odds 69 = .ok (.iload 4, 2) := by decide +kernel
theorem dX6_odds_71 : decode cX6_odds 71 = .ok (.aload_n 0, 1) := by decide +kernel
theorem dX6_odds_72 : decode cX6_odds 72 = .ok (.getfield 37, 3) := by decide +kernel
theorem dX6_odds_75 : decode cX6_odds 75 = .ok (.bipush 8, 2) := by decide +kernel
theorem dX6_odds_77 : decode cX6_odds 77 = .ok (.iload 5, 2) := by decide +kernel
theorem dX6_odds_79 : decode cX6_odds 79 = .ok (.imul, 1) := by decide +kernel
theorem dX6_odds_80 : decode cX6_odds 80 = .ok (.iload 6, 2) := by decide +kernel
theorem dX6_odds_82 : decode cX6_odds 82 = .ok (.iadd, 1) := by decide +kernel
theorem dX6_odds_83 : decode cX6_odds 83 = .ok (.iaload, 1) := by decide +kernel
theorem dX6_odds_84 : decode cX6_odds 84 = .ok (.iload_n 1, 1) := by decide +kernel
theorem dX6_odds_85 : decode cX6_odds 85 = .ok (.if_icmp .gt 7, 3) := by decide +kernel
theorem dX6_odds_88 : decode cX6_odds 88 = .ok (.iconst 1, 1) := by decide +kernel
theorem dX6_odds_89 : decode cX6_odds 89 = .ok (.goto 4, 3) := by decide +kernel
theorem dX6_odds_92 : decode cX6_odds 92 = .ok (.iconst 0, 1) := by decide +kernel
theorem dX6_odds_93 : decode cX6_odds 93 = .ok (.iadd, 1) := by decide +kernel
theorem dX6_odds_94 : decode cX6_odds 94 = .ok (.istore 4, 2) := by decide +kernel
theorem dX6_odds_96 : decode cX6_odds 96 = .ok (.iinc 6 1, 3) := by decide +kernel
theorem dX6_odds_99 : decode cX6_odds 99 = .ok (.goto (-42), 3) := by decide +kernel
theorem dX6_odds_102 : decode cX6_odds 102 = .ok (.iinc 5 1, 3) := by decide +kernel
theorem dX6_odds_105 : decode cX6_odds 105 = .ok (.goto (-63), 3) := by decide +kernel
theorem dX6_odds_108 : decode cX6_odds 108 = .ok (.iload 4, 2) := by decide +kernel
theorem dX6_odds_110 : decode cX6_odds 110 = .ok (.i2l, 1) := by decide +kernel
theorem dX6_odds_111 : decode cX6_odds 111 = .ok (.iload_n 3, 1) := by decide +kernel
theorem dX6_odds_112 : decode cX6_odds 112 = .ok (.i2l, 1) := by decide +kernel
theorem dX6_odds_113 : decode cX6_odds 113 = .ok (.iload_n 2, 1) := by decide +kernel
theorem dX6_odds_114 : decode cX6_odds 114 = .ok (.invokestatic 204, 3) := by decide +kernel
theorem dX6_odds_117 : decode cX6_odds 117 = .ok (.lreturn, 1) := by decide +kernel
theorem dX6_sheet_0 : decode cX6_sheet 0 = .ok (.aload_n 0, 1) := by decide +kernel
theorem dX6_sheet_1 : decode cX6_sheet 1 = .ok (.iconst 0, 1) := by decide +kernel
theorem dX6_sheet_2 : decode cX6_sheet 2 = .ok (.putfield 70, 3) := by decide +kernel
theorem dX6_sheet_5 : decode cX6_sheet 5 = .ok (.iload_n 1, 1) := by decide +kernel
theorem dX6_sheet_6 : decode cX6_sheet 6 = .ok (.invokestatic 94, 3) := by decide +kernel
theorem dX6_sheet_9 : decode cX6_sheet 9 = .ok (.ifCond .ne 5, 3) := by decide +kernel
theorem dX6_sheet_12 : decode cX6_sheet 12 = .ok (.iconst (-1), 1) := by decide +kernel
theorem dX6_sheet_13 : decode cX6_sheet 13 = .ok (.ireturn, 1) := by decide +kernel
theorem dX6_sheet_14 : decode cX6_sheet 14 = .ok (.iload_n 2, 1) := by decide +kernel
theorem dX6_sheet_15 : decode cX6_sheet 15 = .ok (.invokestatic 97, 3) := by decide +kernel
theorem dX6_sheet_18 : decode cX6_sheet 18 = .ok (.ifCond .eq 9, 3) := by decide +kernel
theorem dX6_sheet_21 : decode cX6_sheet 21 = .ok (.iload_n 3, 1) := by decide +kernel
theorem dX6_sheet_22 : decode cX6_sheet 22 = .ok (.bipush 60, 2) := by decide +kernel
theorem dX6_sheet_24 : decode cX6_sheet 24 = .ok (.if_icmp .le 6, 3) := by decide +kernel
theorem dX6_sheet_27 : decode cX6_sheet 27 = .ok (.bipush (-2), 2) := by decide +kernel
theorem dX6_sheet_29 : decode cX6_sheet 29 = .ok (.ireturn, 1) := by decide +kernel
theorem dX6_sheet_30 : decode cX6_sheet 30 = .ok (.iload_n 3, 1) := by decide +kernel
theorem dX6_sheet_31 : decode cX6_sheet 31 = .ok (.ifCond .ge 9, 3) := by decide +kernel
theorem dX6_sheet_34 : decode cX6_sheet 34 = .ok (.aload_n 0, 1) := by decide +kernel
theorem dX6_sheet_35 : decode cX6_sheet 35 = .ok (.iconst 4, 1) := by decide +kernel
theorem dX6_sheet_36 : decode cX6_sheet 36 = .ok (.invokevirtual 104, 3) := by decide +kernel
theorem dX6_sheet_39 : decode cX6_sheet 39 = .ok (.ireturn, 1) := by decide +kernel
theorem dX6_sheet_40 : decode cX6_sheet 40 = .ok (.aload_n 0, 1) := by decide +kernel
theorem dX6_sheet_41 : decode cX6_sheet 41 = .ok (.getfield 9, 3) := by decide +kernel
theorem dX6_sheet_44 : decode cX6_sheet 44 = .ok (.iload_n 1, 1) := by decide +kernel
theorem dX6_sheet_45 : decode cX6_sheet 45 = .ok (.iload_n 2, 1) := by decide +kernel
theorem dX6_sheet_46 : decode cX6_sheet 46 = .ok (.iastore, 1) := by decide +kernel
theorem dX6_sheet_47 : decode cX6_sheet 47 = .ok (.aload_n 0, 1) := by decide +kernel
theorem dX6_sheet_48 : decode cX6_sheet 48 = .ok (.getfield 13, 3) := by decide +kernel
theorem dX6_sheet_51 : decode cX6_sheet 51 = .ok (.iload_n 1, 1) := by decide +kernel
theorem dX6_sheet_52 : decode cX6_sheet 52 = .ok (.iload_n 3, 1) := by decide +kernel
theorem dX6_sheet_53 : decode cX6_sheet 53 = .ok (.iastore, 1) := by decide +kernel
theorem dX6_sheet_54 : decode cX6_sheet 54 = .ok (.iconst 0, 1) := by decide +kernel
theorem dX6_sheet_55 : decode cX6_sheet 55 = .ok (.istore 4, 2) := by decide +kernel
theorem dX6_sheet_57 : decode cX6_sheet 57 = .ok (.iload 4, 2) := by decide +kernel
theorem dX6_sheet_59 : decode cX6_sheet 59 = .ok (.bipush 60, 2) := by decide +kernel
theorem dX6_sheet_61 : decode cX6_sheet 61 = .ok (.if_icmp .ge 22, 3) := by decide +kernel
theorem dX6_sheet_64 : decode cX6_sheet 64 = .ok (.aload_n 0, 1) := by decide +kernel
theorem dX6_sheet_65 : decode cX6_sheet 65 = .ok (.getfield 16, 3) := by decide +kernel
theorem dX6_sheet_68 : decode cX6_sheet 68 = .ok (.bipush 60, 2) := by decide +kernel
theorem dX6_sheet_70 : decode cX6_sheet 70 = .ok (.iload_n 1, 1) := by decide +kernel
theorem dX6_sheet_71 : decode cX6_sheet 71 = .ok (.imul, 1) := by decide +kernel
theorem dX6_sheet_72 : decode cX6_sheet 72 = .ok (.iload 4, 2) := by decide +kernel
theorem dX6_sheet_74 : decode cX6_sheet 74 = .ok (.iadd, 1) := by decide +kernel
theorem dX6_sheet_75 : decode cX6_sheet 75 = .ok (.iconst 0, 1) := by decide +kernel
theorem dX6_sheet_76 : decode cX6_sheet 76 = .ok (.iastore, 1) := by decide +kernel
theorem dX6_sheet_77 : decode cX6_sheet 77 = .ok (.iinc 4 1, 3) := by decide +kernel
theorem dX6_sheet_80 : decode cX6_sheet 80 = .ok (.goto (-23), 3) := by decide +kernel
theorem dX6_sheet_83 : decode cX6_sheet 83 = .ok (.iconst 1, 1) := by decide +kernel
theorem dX6_sheet_84 : decode cX6_sheet 84 = .ok (.ireturn, 1) := by decide +kernel
theorem dX6_lose_0 : decode cX6_lose 0 = .ok (.iload_n 1, 1) := by decide +kernel
theorem dX6_lose_1 : decode cX6_lose 1 = .ok (.invokestatic 94, 3) := by decide +kernel
theorem dX6_lose_4 : decode cX6_lose 4 = .ok (.ifCond .ne 5, 3) := by decide +kernel
theorem dX6_lose_7 : decode cX6_lose 7 = .ok (.iconst (-1), 1) := by decide +kernel
theorem dX6_lose_8 : decode cX6_lose 8 = .ok (.ireturn, 1) := by decide +kernel
theorem dX6_lose_9 : decode cX6_lose 9 = .ok (.aload_n 0, 1) := by decide +kernel
theorem dX6_lose_10 : decode cX6_lose 10 = .ok (.getfield 9, 3) := by decide +kernel
theorem dX6_lose_13 : decode cX6_lose 13 = .ok (.iload_n 1, 1) := by decide +kernel
theorem dX6_lose_14 : decode cX6_lose 14 = .ok (.iaload, 1) := by decide +kernel
theorem dX6_lose_15 : decode cX6_lose 15 = .ok (.bipush (-9), 2) := by decide +kernel
theorem dX6_lose_17 : decode cX6_lose 17 = .ok (.if_icmp .ne 7, 3) := by decide +kernel
theorem dX6_lose_20 : decode cX6_lose 20 = .ok (.iconst 0, 1) := by decide +kernel
theorem dX6_lose_21 : decode cX6_lose 21 = .ok (.goto 4, 3) := by decide +kernel
theorem dX6_lose_24 : decode cX6_lose 24 = .ok (.iconst 1, 1) := by decide +kernel
theorem dX6_lose_25 : decode cX6_lose 25 = .ok (.istore_n 2, 1) := by decide +kernel
theorem dX6_lose_26 : decode cX6_lose 26 = .ok (.aload_n 0, 1) := by decide +kernel
theorem dX6_lose_27 : decode cX6_lose 27 = .ok (.getfield 9, 3) := by decide +kernel
theorem dX6_lose_30 : decode cX6_lose 30 = .ok (.iload_n 1, 1) := by decide +kernel
theorem dX6_lose_31 : decode cX6_lose 31 = .ok (.bipush (-9), 2) := by decide +kernel
theorem dX6_lose_33 : decode cX6_lose 33 = .ok (.iastore, 1) := by decide +kernel
theorem dX6_lose_34 : decode cX6_lose 34 = .ok (.iload_n 2, 1) := by decide +kernel
theorem dX6_lose_35 : decode cX6_lose 35 = .ok (.ireturn, 1) := by decide +kernel
theorem dX6_put_0 : decode cX6_put 0 = .ok (.aload_n 0, 1) := by decide +kernel
theorem dX6_put_1 : decode cX6_put 1 = .ok (.iconst 0, 1) := by decide +kernel
theorem dX6_put_2 : decode cX6_put 2 = .ok (.putfield 70, 3) := by decide +kernel
theorem dX6_put_5 : decode cX6_put 5 = .ok (.iload_n 1, 1) := by decide +kernel
theorem dX6_put_6 : decode cX6_put 6 = .ok (.invokestatic 94, 3) := by decide +kernel
theorem dX6_put_9 : decode cX6_put 9 = .ok (.ifCond .ne 5, 3) := by decide +kernel
theorem dX6_put_12 : decode cX6_put 12 = .ok (.iconst (-1), 1) := by decide +kernel
theorem dX6_put_13 : decode cX6_put 13 = .ok (.ireturn, 1) := by decide +kernel
theorem dX6_put_14 : decode cX6_put 14 = .ok (.aload_n 0, 1) := by decide +kernel
theorem dX6_put_15 : decode cX6_put 15 = .ok (.getfield 9, 3) := by decide +kernel
theorem dX6_put_18 : decode cX6_put 18 = .ok (.iload_n 1, 1) := by decide +kernel
theorem dX6_put_19 : decode cX6_put 19 = .ok (.iaload, 1) := by decide +kernel
theorem dX6_put_20 : decode cX6_put 20 = .ok (.bipush (-9), 2) := by decide +kernel
theorem dX6_put_22 : decode cX6_put 22 = .ok (.if_icmp .ne 9, 3) := by decide +kernel
theorem dX6_put_25 : decode cX6_put 25 = .ok (.aload_n 0, 1) := by decide +kernel
theorem dX6_put_26 : decode cX6_put 26 = .ok (.iconst 1, 1) := by decide +kernel
theorem dX6_put_27 : decode cX6_put 27 = .ok (.invokevirtual 104, 3) := by decide +kernel
theorem dX6_put_30 : decode cX6_put 30 = .ok (.ireturn, 1) := by decide +kernel
theorem dX6_put_31 : decode cX6_put 31 = .ok (.iload_n 2, 1) := by decide +kernel
theorem dX6_put_32 : decode cX6_put 32 = .ok (.iconst 0, 1) := by decide +kernel
theorem dX6_put_33 : decode cX6_put 33 = .ok (.aload_n 0, 1) := by decide +kernel
theorem dX6_put_34 : decode cX6_put 34 = .ok (.getfield 13, 3) := by decide +kernel
theorem dX6_put_37 : decode cX6_put 37 = .ok (.iload_n 1, 1) := by decide +kernel
theorem dX6_put_38 : decode cX6_put 38 = .ok (.iaload, 1) := by decide +kernel
theorem dX6_put_39 : decode cX6_put 39 = .ok (.iconst 1, 1) := by decide +kernel
theorem dX6_put_40 : decode cX6_put 40 = .ok (.isub, 1) := by decide +kernel
theorem dX6_put_41 : decode cX6_put 41 = .ok (.invokestatic 76, 3) := by decide +kernel
theorem dX6_put_44 : decode cX6_put 44 = .ok (.ifCond .ne 9, 3) := by decide +kernel
theorem dX6_put_47 : decode cX6_put 47 = .ok (.aload_n 0, 1) := by decide +kernel
theorem dX6_put_48 : decode cX6_put 48 = .ok (.iconst 3, 1) := by decide +kernel
theorem dX6_put_49 : decode cX6_put 49 = .ok (.invokevirtual 104, 3) := by decide +kernel
theorem dX6_put_52 : decode cX6_put 52 = .ok (.ireturn, 1) := by decide +kernel
theorem dX6_put_53 : decode cX6_put 53 = .ok (.aload_n 0, 1) := by decide +kernel
theorem dX6_put_54 : decode cX6_put 54 = .ok (.getfield 16, 3) := by decide +kernel
theorem dX6_put_57 : decode cX6_put 57 = .ok (.bipush 60, 2) := by decide +kernel
theorem dX6_put_59 : decode cX6_put 59 = .ok (.iload_n 1, 1) := by decide +kernel
theorem dX6_put_60 : decode cX6_put 60 = .ok (.imul, 1) := by decide +kernel
theorem dX6_put_61 : decode cX6_put 61 = .ok (.iload_n 2, 1) := by decide +kernel
theorem dX6_put_62 : decode cX6_put 62 = .ok (.iadd, 1) := by decide +kernel
theorem dX6_put_63 : decode cX6_put 63 = .ok (.aload_n 0, 1) := by decide +kernel
theorem dX6_put_64 : decode cX6_put 64 = .ok (.getfield 9, 3) := by decide +kernel
theorem dX6_put_67 : decode cX6_put 67 = .ok (.iload_n 1, 1) := by decide +kernel
theorem dX6_put_68 : decode cX6_put 68 = .ok (.iaload, 1) := by decide +kernel
theorem dX6_put_69 : decode cX6_put 69 = .ok (.ifCond .ne 8, 3) := by decide +kernel
theorem dX6_put_72 : decode cX6_put 72 = .ok (.iload_n 3, 1) := by decide +kernel
theorem dX6_put_73 : decode cX6_put 73 = .ok (.i2b, 1) := by decide +kernel
theorem dX6_put_74 : decode cX6_put 74 = .ok (.goto 19, 3) := by decide +kernel
theorem dX6_put_77 : decode cX6_put 77 = .ok (.aload_n 0, 1) := by decide +kernel
theorem dX6_put_78 : decode cX6_put 78 = .ok (.getfield 9, 3) := by decide +kernel
theorem dX6_put_81 : decode cX6_put 81 = .ok (.iload_n 1, 1) := by decide +kernel
theorem dX6_put_82 : decode cX6_put 82 = .ok (.iaload, 1) := by decide +kernel
theorem dX6_put_83 : decode cX6_put 83 = .ok (.iconst 1, 1) := by decide +kernel
theorem dX6_put_84 : decode cX6_put 84 = .ok (.if_icmp .ne 8, 3) := by decide +kernel
theorem dX6_put_87 : decode cX6_put 87 = .ok (.iload_n 3, 1) := by decide +kernel
theorem dX6_put_88 : decode cX6_put 88 = .ok (.i2s, 1) := by decide +kernel
theorem dX6_put_89 : decode cX6_put 89 = .ok (.goto 4, 3) := by decide +kernel
theorem dX6_put_92 : decode cX6_put 92 = .ok (.iload_n 3, 1) := by decide +kernel
theorem dX6_put_93 : decode cX6_put 93 = .ok (.iastore, 1) := by decide +kernel
