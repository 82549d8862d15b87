theorem dX6_farthestFrom_18 : decode cX6_farthestFrom 18 = .ok (.iload_n 1, 1) := by decide +kernel
theorem dX6_farthestFrom_19 : decode cX6_farthestFrom 19 = .ok (.imul, 1) := by decide +kernel
theorem dX6_farthestFrom_20 : decode cX6_farthestFrom 20 = .ok (.iload_n 3, 1) := by decide +kernel
theorem dX6_farthestFrom_21 : decode cX6_farthestFrom 21 = .ok (.iadd, 1) := by decide +kernel
theorem dX6_farthestFrom_22 : decode cX6_farthestFrom 22 = .ok (.iaload, 1) := by decide +kernel
theorem dX6_farthestFrom_23 : decode cX6_farthestFrom 23 = .ok (.iload_n 2, 1) := by decide +kernel
theorem dX6_farthestFrom_24 : decode cX6_farthestFrom 24 = .ok (.if_icmp .le 17, 3) := by decide +kernel
theorem dX6_farthestFrom_27 : decode cX6_farthestFrom 27 = .ok (.aload_n 0, 1) := by decide +kernel
theorem dX6_farthestFrom_28 : decode cX6_farthestFrom 28 = .ok (.getfield 37, 3) := by decide +kernel
theorem dX6_farthestFrom_31 : decode cX6_farthestFrom 31 = .ok (.bipush 8, 2) := by decide +kernel
theorem dX6_farthestFrom_33 : decode cX6_farthestFrom 33 = .ok (.iload_n 1, 1) := by decide +kernel
theorem dX6_farthestFrom_34 : decode cX6_farthestFrom 34 = .ok (.imul, 1) := by decide +kernel
theorem dX6_farthestFrom_35 : decode cX6_farthestFrom 35 = .ok (.iload_n 3, 1) := by decide +kernel
theorem dX6_farthestFrom_36 : decode cX6_farthestFrom 36 = .ok (.iadd, 1) := by decide +kernel
theorem dX6_farthestFrom_37 : decode cX6_farthestFrom 37 = .ok (.iaload, 1) := by decide +kernel
theorem dX6_farthestFrom_38 : decode cX6_farthestFrom 38 = .ok (.goto 4, 3) := by decide +kernel
theorem dX6_farthestFrom_41 : decode cX6_farthestFrom 41 = .ok (.iload_n 2, 1) := by decide +kernel
theorem dX6_farthestFrom_42 : decode cX6_farthestFrom 42 = .ok (.istore_n 2, 1) := by decide +kernel
theorem dX6_farthestFrom_43 : decode cX6_farthestFrom 43 = .ok (.iinc 3 1, 3) := by decide +kernel
theorem dX6_farthestFrom_46 : decode cX6_farthestFrom 46 = .ok (.goto (-42), 3) := by decide +kernel
theorem dX6_farthestFrom_49 : decode cX6_farthestFrom 49 = .ok (.iload_n 2, 1) := by decide +kernel
theorem dX6_farthestFrom_50 : decode cX6_farthestFrom 50 = .ok (.ireturn, 1) := by decide +kernel
theorem dX6_longest_0 : decode cX6_longest 0 = .ok (.iconst 0, 1) := by decide +kernel
theorem dX6_longest_1 : decode cX6_longest 1 = .ok (.istore_n 1, 1) := by decide +kernel
theorem dX6_longest_2 : decode cX6_longest 2 = .ok (.iconst 0, 1) := by decide +kernel
theorem dX6_longest_3 : decode cX6_longest 3 = .ok (.istore_n 2, 1) := by decide +kernel
theorem dX6_longest_4 : decode cX6_longest 4 = .ok (.iload_n 2, 1) := by decide +kernel
theorem dX6_longest_5 : decode cX6_longest 5 = .ok (.aload_n 0, 1) := by decide +kernel
theorem dX6_longest_6 : decode cX6_longest 6 = .ok (.getfield 80, 3) := by decide +kernel
theorem dX6_longest_9 : decode cX6_longest 9 = .ok (.if_icmp .ge 28, 3) := by decide +kernel
theorem dX6_longest_12 : decode cX6_longest 12 = .ok (.aload_n 0, 1) := by decide +kernel
theorem dX6_longest_13 : decode cX6_longest 13 = .ok (.iload_n 2, 1) := by decide +kernel
theorem dX6_longest_14 : decode cX6_longest 14 = .ok (.invokevirtual 143, 3) := by decide +kernel
theorem dX6_longest_17 : decode cX6_longest 17 = .ok (.iload_n 1, 1) := by decide +kernel
theorem dX6_longest_18 : decode cX6_longest 18 = .ok (.if_icmp .le 11, 3) := by decide +kernel
theorem dX6_longest_21 : decode cX6_longest 21 = .ok (.aload_n 0, 1) := by decide +kernel
theorem dX6_longest_22 : decode cX6_longest 22 = .ok (.iload_n 2, 1) := by decide +kernel
theorem dX6_longest_23 : decode cX6_longest 23 = .ok (.invokevirtual 143, 3) := by decide +kernel
theorem dX6_longest_26 : decode cX6_longest 26 = .ok (.goto 4, 3) := by decide +kernel
theorem dX6_longest_29 : decode cX6_longest 29 = .ok (.iload_n 1, 1) := by decide +kernel
theorem dX6_longest_30 : decode cX6_longest 30 = .ok (.istore_n 1, 1) := by decide +kernel
theorem dX6_longest_31 : decode cX6_longest 31 = .ok (.iinc 2 1, 3) := by decide +kernel
theorem dX6_longest_34 : decode cX6_longest 34 = .ok (.goto (-30), 3) := by decide +kernel
theorem dX6_longest_37 : decode cX6_longest 37 = .ok (.iload_n 1, 1) := by decide +kernel
theorem dX6_longest_38 : decode cX6_longest 38 = .ok (.ireturn, 1) := by decide +kernel
theorem dX6_ofPost_0 : decode cX6_ofPost 0 = .ok (.aload_n 0, 1) := by decide +kernel
theorem dX6_ofPost_1 : decode cX6_ofPost 1 = .ok (.iload_n 1, 1) := by decide +kernel
theorem dX6_ofPost_2 : decode cX6_ofPost 2 = .ok (.invokevirtual 83, 3) := by decide +kernel
theorem dX6_ofPost_5 : decode cX6_ofPost 5 = .ok (.ifCond .ne 5, 3) := by decide +kernel
theorem dX6_ofPost_8 : decode cX6_ofPost 8 = .ok (.iconst (-1), 1) := by decide +kernel
theorem dX6_ofPost_9 : decode cX6_ofPost 9 = .ok (.ireturn, 1) := by decide +kernel
theorem dX6_ofPost_10 : decode cX6_ofPost 10 = .ok (.iload_n 2, 1) := by decide +kernel
theorem dX6_ofPost_11 : decode cX6_ofPost 11 = .ok (.tableswitch 84 0 5 #[37, 44, 51, 57, 67, 74], 37) := by decide +kernel
theorem dX6_ofPost_48 : decode cX6_ofPost 48 = .ok (.aload_n 0, 1) := by decide +kernel
theorem dX6_ofPost_49 : decode cX6_ofPost 49 = .ok (.getfield 22, 3) := by decide +kernel
theorem dX6_ofPost_52 : decode cX6_ofPost 52 = .ok (.iload_n 1, 1) := by decide +kernel
theorem dX6_ofPost_53 : decode cX6_ofPost 53 = .ok (.iaload, 1) := by decide +kernel
theorem dX6_ofPost_54 : decode cX6_ofPost 54 = .ok (.ireturn, 1) := by decide +kernel
theorem dX6_ofPost_55 : decode cX6_ofPost 55 = .ok (.aload_n 0, 1) := by decide +kernel
theorem dX6_ofPost_56 : decode cX6_ofPost 56 = .ok (.getfield 25, 3) := by decide +kernel
theorem dX6_ofPost_59 : decode cX6_ofPost 59 = .ok (.iload_n 1, 1) := by decide +kernel
theorem dX6_ofPost_60 : decode cX6_ofPost 60 = .ok (.iaload, 1) := by decide +kernel
theorem dX6_ofPost_61 : decode cX6_ofPost 61 = .ok (.ireturn, 1) := by decide +kernel
theorem dX6_ofPost_62 : decode cX6_ofPost 62 = .ok (.aload_n 0, 1) := by decide +kernel
theorem dX6_ofPost_63 : decode cX6_ofPost 63 = .ok (.iload_n 1, 1) := by decide +kernel
theorem dX6_ofPost_64 : decode cX6_ofPost 64 = .ok (.invokevirtual 137, 3) := by decide +kernel
theorem dX6_ofPost_67 : decode cX6_ofPost 67 = .ok (.ireturn, 1) := by decide +kernel
theorem dX6_ofPost_68 : decode cX6_ofPost 68 = .ok (.aload_n 0, 1) := by decide +kernel
theorem dX6_ofPost_69 : decode cX6_ofPost 69 = .ok (.getfield 19, 3) := by decide +kernel
theorem dX6_ofPost_72 : decode cX6_ofPost 72 = .ok (.iload_n 1, 1) := by decide +kernel
theorem dX6_ofPost_73 : decode cX6_ofPost 73 = .ok (.iaload, 1) := by decide +kernel
theorem dX6_ofPost_74 : decode cX6_ofPost 74 = .ok (.invokestatic 140, 3) := by decide +kernel
theorem dX6_ofPost_77 : decode cX6_ofPost 77 = .ok (.ireturn, 1) := by decide +kernel
theorem dX6_ofPost_78 : decode cX6_ofPost 78 = .ok (.aload_n 0, 1) := by decide +kernel
theorem dX6_ofPost_79 : decode cX6_ofPost 79 = .ok (.getfield 19, 3) := by decide +kernel
theorem dX6_ofPost_82 : decode cX6_ofPost 82 = .ok (.iload_n 1, 1) := by decide +kernel
theorem dX6_ofPost_83 : decode cX6_ofPost 83 = .ok (.iaload, 1) := by decide +kernel
theorem dX6_ofPost_84 : decode cX6_ofPost 84 = .ok (.ireturn, 1) := by decide +kernel
theorem dX6_ofPost_85 : decode cX6_ofPost 85 = .ok (.aload_n 0, 1) := by decide +kernel
theorem dX6_ofPost_86 : decode cX6_ofPost 86 = .ok (.invokevirtual 146, 3) := by decide +kernel
theorem dX6_ofPost_89 : decode cX6_ofPost 89 = .ok (.aload_n 0, 1) := by decide +kernel
theorem dX6_ofPost_90 : decode cX6_ofPost 90 = .ok (.iload_n 1, 1) := by decide +kernel
theorem dX6_ofPost_91 : decode cX6_ofPost 91 = .ok (.invokevirtual 143, 3) := by decide +kernel
theorem dX6_ofPost_94 : decode cX6_ofPost 94 = .ok (.ireturn, 1) := by decide +kernel
theorem dX6_ofPost_95 : decode cX6_ofPost 95 = .ok (.bipush (-2), 2) := by decide +kernel
theorem dX6_ofPost_97 : decode cX6_ofPost 97 = .ok (.ireturn, 1) := by decide +kernel
theorem dX6_load_0 : decode cX6_load 0 = .ok (.aload_n 0, 1) := by decide +kernel
theorem dX6_load_1 : decode cX6_load 1 = .ok (.iload_n 1, 1) := by decide +kernel
theorem dX6_load_2 : decode cX6_load 2 = .ok (.invokevirtual 83, 3) := by decide +kernel
theorem dX6_load_5 : decode cX6_load 5 = .ok (.ifCond .ne 5, 3) := by decide +kernel
theorem dX6_load_8 : decode cX6_load 8 = .ok (.iconst (-1), 1) := by decide +kernel
theorem dX6_load_9 : decode cX6_load 9 = .ok (.ireturn, 1) := by decide +kernel
theorem dX6_load_10 : decode cX6_load 10 = .ok (.iload_n 2, 1) := by decide +kernel
theorem dX6_load_11 : decode cX6_load 11 = .ok (.iconst 0, 1) := by decide +kernel
theorem dX6_load_12 : decode cX6_load 12 = .ok (.bipush 9, 2) := by decide +kernel
theorem dX6_load_14 : decode cX6_load 14 = .ok (.invokestatic 76, 3) := by decide +kernel
theorem dX6_load_17 : decode cX6_load 17 = .ok (.ifCond .ne 6, 3) := by decide +kernel
theorem dX6_load_20 : decode cX6_load 20 = .ok (.bipush (-2), 2) := by decide +kernel
theorem dX6_load_22 : decode cX6_load 22 = .ok (.ireturn, 1) := by decide +kernel
theorem dX6_load_23 : decode cX6_load 23 = .ok (.aload_n 0, 1) := by decide +kernel
theorem dX6_load_24 : decode cX6_load 24 = .ok (.getfield 25, 3) := by decide +kernel
theorem dX6_load_27 : decode cX6_load 27 = .ok (.iload_n 1, 1) := by decide +kernel
theorem dX6_load_28 : decode cX6_load 28 = .ok (.iaload, 1) := by decide +kernel
theorem dX6_load_29 : decode cX6_load 29 = .ok (.istore_n 3, 1) := by decide +kernel
theorem dX6_load_30 : decode cX6_load 30 = .ok (.aload_n 0, 1) := by decide +kernel
theorem dX6_load_31 : decode cX6_load 31 = .ok (.getfield 25, 3) := by decide +kernel
theorem dX6_load_34 : decode cX6_load 34 = .ok (.iload_n 1, 1) := by decide +kernel
theorem dX6_load_35 : decode cX6_load 35 = .ok (.iload_n 2, 1) := by decide +kernel
theorem dX6_load_36 : decode cX6_load 36 = .ok (.iastore, 1) := by decide +kernel
theorem dX6_load_37 : decode cX6_load 37 = .ok (.iload_n 3, 1) := by decide +kernel
theorem dX6_load_38 : decode cX6_load 38 = .ok (.ireturn, 1) := by decide +kernel
theorem dX6_findRow_0 : decode cX6_findRow 0 = .ok (.iconst 0, 1) := by decide +kernel
theorem dX6_findRow_1 : decode cX6_findRow 1 = .ok (.istore_n 1, 1) := by decide +kernel
theorem dX6_findRow_2 : decode cX6_findRow 2 = .ok (.iload_n 1, 1) := by decide +kernel
theorem dX6_findRow_3 : decode cX6_findRow 3 = .ok (.aload_n 0, 1) := by decide +kernel
theorem dX6_findRow_4 : decode cX6_findRow 4 = .ok (.getfield 80, 3) := by decide +kernel
theorem dX6_findRow_7 : decode cX6_findRow 7 = .ok (.if_icmp .ge 21, 3) := by decide +kernel
theorem dX6_findRow_10 : decode cX6_findRow 10 = .ok (.aload_n 0, 1) := by decide +kernel
theorem dX6_findRow_11 : decode cX6_findRow 11 = .ok (.getfield 43, 3) := by decide +kernel
theorem dX6_findRow_14 : decode cX6_findRow 14 = .ok (.iload_n 1, 1) := by decide +kernel
theorem dX6_findRow_15 : decode cX6_findRow 15 = .ok (.aload_n 0, 1) := by decide +kernel
theorem dX6_findRow_16 : decode cX6_findRow 16 = .ok (.getfield 19, 3) := by decide +kernel
theorem dX6_findRow_19 : decode cX6_findRow 19 = .ok (.iload_n 1, 1) := by decide +kernel
theorem dX6_findRow_20 : decode cX6_findRow 20 = .ok (.iaload, 1) := by decide +kernel
theorem dX6_findRow_21 : decode cX6_findRow 21 = .ok (.iastore, 1) := by decide +kernel
theorem dX6_findRow_22 : decode cX6_findRow 22 = .ok (.iinc 1 1, 3) := by decide +kernel
theorem dX6_findRow_25 : decode cX6_findRow 25 = .ok (.goto (-23), 3) := by decide +kernel
theorem dX6_findRow_28 : decode cX6_findRow 28 = .ok (.iconst 0, 1) := by decide +kernel
theorem dX6_findRow_29 : decode cX6_findRow 29 = .ok (.istore_n 1, 1) := by decide +kernel
theorem dX6_findRow_30 : decode cX6_findRow 30 = .ok (.iload_n 1, 1) := by decide +kernel
theorem dX6_findRow_31 : decode cX6_findRow 31 = .ok (.aload_n 0, 1) := by decide +kernel
theorem dX6_findRow_32 : decode cX6_findRow 32 = .ok (.getfield 80, 3) := by decide +kernel
theorem dX6_findRow_35 : decode cX6_findRow 35 = .ok (.iconst 2, 1) := by decide +kernel
theorem dX6_findRow_36 : decode cX6_findRow 36 = .ok (.isub, 1) := by decide +kernel
theorem dX6_findRow_37 : decode cX6_findRow 37 = .ok (.if_icmp .ge 71, 3) := by decide +kernel
theorem dX6_findRow_40 : decode cX6_findRow 40 = .ok (.iconst 0, 1) := by decide +kernel
theorem dX6_findRow_41 : decode cX6_findRow 41 = .ok (.istore_n 2, 1) := by decide +kernel
theorem dX6_findRow_42 : decode cX6_findRow 42 = .ok (.aload_n 0, 1) := by decide +kernel
theorem dX6_findRow_43 : decode cX6_findRow 43 = .ok (.getfield 43, 3) := by decide +kernel
theorem dX6_findRow_46 : decode cX6_findRow 46 = .ok (.iload_n 2, 1) := by decide +kernel
theorem dX6_findRow_47 : decode cX6_findRow 47 = .ok (.iaload, 1) := by decide +kernel
theorem dX6_findRow_48 : decode cX6_findRow 48 = .ok (.invokestatic 140, 3) := by decide +kernel
theorem dX6_findRow_51 : decode cX6_findRow 51 = .ok (.iconst 1, 1) := by decide +kernel
theorem dX6_findRow_52 : decode cX6_findRow 52 = .ok (.if_icmp .eq 9, 3) := by decide +kernel
theorem dX6_findRow_55 : decode cX6_findRow 55 = .ok (.iinc 2 1, 3) := by decide +kernel
theorem dX6_findRow_58 : decode cX6_findRow 58 = .ok (.goto (-16), 3) := by decide +kernel
theorem dX6_findRow_61 : decode cX6_findRow 61 = .ok (.aload_n 0, 1) := by decide +kernel
theorem dX6_findRow_62 : decode cX6_findRow 62 = .ok (.getfield 40, 3) := by decide +kernel
theorem dX6_findRow_65 : decode cX6_findRow 65 = .ok (.iload_n 1, 1) := by decide +kernel
theorem dX6_findRow_66 : decode cX6_findRow 66 = .ok (.aload_n 0, 1) := by decide +kernel
theorem dX6_findRow_67 : decode cX6_findRow 67 = .ok (.getfield 43, 3) := by decide +kernel
theorem dX6_findRow_70 : decode cX6_findRow 70 = .ok (.iload_n 2, 1) := by decide +kernel
theorem dX6_findRow_71 : decode cX6_findRow 71 = .ok (.iaload, 1) := by decide +kernel
theorem dX6_findRow_72 : decode cX6_findRow 72 = .ok (.invokestatic 130, 3) := by decide +kernel
theorem dX6_findRow_75 : decode cX6_findRow 75 = .ok (.iastore, 1) := by decide +kernel
theorem dX6_findRow_76 : decode cX6_findRow 76 = .ok (.aload_n 0, 1) := by decide +kernel
theorem dX6_findRow_77 : decode cX6_findRow 77 = .ok (.getfield 43, 3) := by decide +kernel
theorem dX6_findRow_80 : decode cX6_findRow 80 = .ok (.aload_n 0, 1) := by decide +kernel
theorem dX6_findRow_81 : decode cX6_findRow 81 = .ok (.getfield 40, 3) := by decide +kernel
theorem dX6_findRow_84 : decode cX6_findRow 84 = .ok (.iload_n 1, 1) := by decide +kernel
theorem dX6_findRow_85 : decode cX6_findRow 85 = .ok (.iaload, 1) := by decide +kernel
theorem dX6_findRow_86 : decode cX6_findRow 86 = .ok (.dup2, 1) := by decide +kernel
theorem dX6_findRow_87 : decode cX6_findRow 87 = .ok (.iaload, 1) := by decide +kernel
theorem dX6_findRow_88 : decode cX6_findRow 88 = .ok (.iconst 1, 1) := by decide +kernel
theorem dX6_findRow_89 : decode cX6_findRow 89 = .ok (.iload_n 2, 1) := by decide +kernel
theorem dX6_findRow_90 : decode cX6_findRow 90 = .ok (.ishl, 1) := by decide +kernel
theorem dX6_findRow_91 : decode cX6_findRow 91 = .ok (.iconst (-1), 1) := by decide +kernel
theorem dX6_findRow_92 : decode cX6_findRow 92 = .ok (.ixor, 1) := by decide +kernel
theorem dX6_findRow_93 : decode cX6_findRow 93 = .ok (.iand, 1) := by decide +kernel
theorem dX6_findRow_94 : decode cX6_findRow 94 = .ok (.iastore, 1) := by decide +kernel
theorem dX6_findRow_95 : decode cX6_findRow 95 = .ok (.aload_n 0, 1) := by decide +kernel
theorem dX6_findRow_96 : decode cX6_findRow 96 = .ok (.getfield 43, 3) := by decide +kernel
theorem dX6_findRow_99 : decode cX6_findRow 99 = .ok (.iload_n 2, 1) := by decide +kernel
theorem dX6_findRow_100 : decode cX6_findRow 100 = .ok (.iconst 0, 1) := by decide +kernel
theorem dX6_findRow_101 : decode cX6_findRow 101 = .ok (.iastore, 1) := by decide +kernel
theorem dX6_findRow_102 : decode cX6_findRow 102 = .ok (.iinc 1 1, 3) := by decide +kernel
theorem dX6_findRow_105 : decode cX6_findRow 105 = .ok (.goto (-75), 3) := by decide +kernel
theorem dX6_findRow_108 : decode cX6_findRow 108 = .ok (.return_, 1) := by decide +kernel
theorem dX6_row_0 : decode cX6_row 0 = .ok (.iload_n 1, 1) := by decide +kernel
theorem dX6_row_1 : decode cX6_row 1 = .ok (.iconst 0, 1) := by decide +kernel
theorem dX6_row_2 : decode cX6_row 2 = .ok (.iconst 5, 1) := by decide +kernel
theorem dX6_row_3 : decode cX6_row 3 = .ok (.invokestatic 76, 3) := by decide +kernel
theorem dX6_row_6 : decode cX6_row 6 = .ok (.ifCond .ne 6, 3) := by decide +kernel
theorem dX6_row_9 : decode cX6_row 9 = .ok (.bipush (-2), 2) := by decide +kernel
theorem dX6_row_11 : decode cX6_row 11 = .ok (.ireturn, 1) := by decide +kernel
theorem dX6_row_12 : decode cX6_row 12 = .ok (.aload_n 0, 1) := by decide +kernel
theorem dX6_row_13 : decode cX6_row 13 = .ok (.getfield 80, 3) := by decide +kernel
theorem dX6_row_16 : decode cX6_row 16 = .ok (.ifCond .ne 6, 3) := by decide +kernel
theorem dX6_row_19 : decode cX6_row 19 = .ok (.bipush (-3), 2) := by decide +kernel
theorem dX6_row_21 : decode cX6_row 21 = .ok (.ireturn, 1) := by decide +kernel
theorem dX6_row_22 : decode cX6_row 22 = .ok (.aload_n 0, 1) := by decide +kernel
theorem dX6_row_23 : decode cX6_row 23 = .ok (.invokevirtual 149, 3) := by decide +kernel
theorem dX6_row_26 : decode cX6_row 26 = .ok (.iload_n 1, 1) := by decide +kernel
theorem dX6_row_27 : decode cX6_row 27 = .ok (.aload_n 0, 1) := by decide +kernel
theorem dX6_row_28 : decode cX6_row 28 = .ok (.getfield 80, 3) := by decide +kernel
theorem dX6_row_31 : decode cX6_row 31 = .ok (.iconst 2, 1) := by decide +kernel
theorem dX6_row_32 : decode cX6_row 32 = .ok (.isub, 1) := by decide +kernel
theorem dX6_row_33 : decode cX6_row 33 = .ok (.if_icmp .ge 12, 3) := by decide +kernel
theorem dX6_row_36 : decode cX6_row 36 = .ok (.aload_n 0, 1) := by decide +kernel
theorem dX6_row_37 : decode cX6_row 37 = .ok (.getfield 40, 3) := by decide +kernel
theorem dX6_row_40 : decode cX6_row 40 = .ok (.iload_n 1, 1) := by decide +kernel
theorem dX6_row_41 : decode cX6_row 41 = .ok (.iaload, 1) := by decide +kernel
theorem dX6_row_42 : decode cX6_row 42 = .ok (.goto 5, 3) := by decide +kernel
theorem dX6_row_45 : decode cX6_row 45 = .ok (.bipush (-9), 2) := by decide +kernel
theorem dX6_row_47 : decode cX6_row 47 = .ok (.ireturn, 1) := by decide +kernel
theorem dX6_graft_0 : decode cX6_graft 0 = .ok (.aload_n 0, 1) := by decide +kernel
theorem dX6_graft_1 : decode cX6_graft 1 = .ok (.iload_n 1, 1) := by decide +kernel
theorem dX6_graft_2 : decode cX6_graft 2 = .ok (.iload_n 2, 1) := by decide +kernel
theorem dX6_graft_3 : decode cX6_graft 3 = .ok (.invokevirtual 152, 3) := by decide +kernel
theorem dX6_graft_6 : decode cX6_graft 6 = .ok (.ifCond .ne 5, 3) := by decide +kernel
theorem dX6_graft_9 : decode cX6_graft 9 = .ok (.iconst (-1), 1) := by decide +kernel
theorem dX6_graft_10 : decode cX6_graft 10 = .ok (.ireturn, 1) := by decide +kernel
theorem dX6_graft_11 : decode cX6_graft 11 = .ok (.aload_n 0, 1) := by decide +kernel
theorem dX6_graft_12 : decode cX6_graft 12 = .ok (.getfield 19, 3) := by decide +kernel
theorem dX6_graft_15 : decode cX6_graft 15 = .ok (.iload_n 1, 1) := by decide +kernel
theorem dX6_graft_16 : decode cX6_graft 16 = .ok (.iaload, 1) := by decide +kernel
theorem dX6_graft_17 : decode cX6_graft 17 = .ok (.invokestatic 140, 3) := by decide +kernel
theorem dX6_graft_20 : decode cX6_graft 20 = .ok (.iconst 1, 1) := by decide +kernel
theorem dX6_graft_21 : decode cX6_graft 21 = .ok (.if_icmp .eq 6, 3) := by decide +kernel
theorem dX6_graft_24 : decode cX6_graft 24 = .ok (.bipush (-3), 2) := by decide +kernel
theorem dX6_graft_26 : decode cX6_graft 26 = .ok (.ireturn, 1) := by decide +kernel
theorem dX6_graft_27 : decode cX6_graft 27 = .ok (.aload_n 0, 1) := by decide +kernel
theorem dX6_graft_28 : decode cX6_graft 28 = .ok (.getfield 19, 3) := by decide +kernel
theorem dX6_graft_31 : decode cX6_graft 31 = .ok (.iload_n 1, 1) := by decide +kernel
theorem dX6_graft_32 : decode cX6_graft 32 = .ok (.iaload, 1) := by decide +kernel
theorem dX6_graft_33 : decode cX6_graft 33 = .ok (.invokestatic 130, 3) := by decide +kernel
theorem dX6_graft_36 : decode cX6_graft 36 = .ok (.istore_n 3, 1) := by decide +kernel
theorem dX6_graft_37 : decode cX6_graft 37 = .ok (.aload_n 0, 1) := by decide +kernel
theorem dX6_graft_38 : decode cX6_graft 38 = .ok (.iload_n 1, 1) := by decide +kernel
theorem dX6_graft_39 : decode cX6_graft 39 = .ok (.iload_n 3, 1) := by decide +kernel
theorem dX6_graft_40 : decode cX6_graft 40 = .ok (.invokevirtual 155, 3) := by decide +kernel
theorem dX6_graft_43 : decode cX6_graft 43 = .ok (.aload_n 0, 1) := by decide +kernel
theorem dX6_graft_44 : decode cX6_graft 44 = .ok (.iload_n 1, 1) := by decide +kernel
theorem dX6_graft_45 : decode cX6_graft 45 = .ok (.iload_n 2, 1) := by decide +kernel
theorem dX6_graft_46 : decode cX6_graft 46 = .ok (.invokevirtual 133, 3) := by decide +kernel
theorem dX6_graft_49 : decode cX6_graft 49 = .ok (.aload_n 0, 1) := by decide +kernel
theorem dX6_graft_50 : decode cX6_graft 50 = .ok (.dup, 1) := by decide +kernel
theorem dX6_graft_51 : decode cX6_graft 51 = .ok (.getfield 117, 3) := by decide +kernel
theorem dX6_graft_54 : decode cX6_graft 54 = .ok (.iconst 1, 1) := by decide +kernel
theorem dX6_graft_55 : decode cX6_graft 55 = .ok (.iadd, 1) := by decide +kernel
theorem dX6_graft_56 : decode cX6_graft 56 = .ok (.putfield 117, 3) := by decide +kernel
theorem dX6_graft_59 : decode cX6_graft 59 = .ok (.iload_n 3, 1) := by decide +kernel
theorem dX6_graft_60 : decode cX6_graft 60 = .ok (.ireturn, 1) := by decide +kernel
theorem dX6_does_0 : decode cX6_does 0 = .ok (.iload_n 2, 1) := by decide +kernel
theorem dX6_does_1 : decode cX6_does 1 = .ok (.bipush 10, 2) := by decide +kernel
theorem dX6_does_3 : decode cX6_does 3 = .ok (.if_icmp .lt 28, 3) := by decide +kernel
theorem dX6_does_6 : decode cX6_does 6 = .ok (.aload_n 0, 1) := by decide +kernel
theorem dX6_does_7 : decode cX6_does 7 = .ok (.iload_n 2, 1) := by decide +kernel
theorem dX6_does_8 : decode cX6_does 8 = .ok (.bipush 10, 2) := by decide +kernel
theorem dX6_does_10 : decode cX6_does 10 = .ok (.isub, 1) := by decide +kernel
theorem dX6_does_11 : decode cX6_does 11 = .ok (.invokevirtual 83, 3) := by decide +kernel
theorem dX6_does_14 : decode cX6_does 14 = .ok (.ifCond .ne 5, 3) := by decide +kernel
theorem dX6_does_17 : decode cX6_does 17 = .ok (.iconst 0, 1) := by decide +kernel
theorem dX6_does_18 : decode cX6_does 18 = .ok (.ireturn, 1) := by decide +kernel
theorem dX6_does_19 : decode cX6_does 19 = .ok (.aload_n 0, 1) := by decide +kernel
theorem dX6_does_20 : decode cX6_does 20 = .ok (.getfield 25, 3) := by decide +kernel
theorem dX6_does_23 : decode cX6_does 23 = .ok (.iload_n 2, 1) := by decide +kernel
theorem dX6_does_24 : decode cX6_does 24 = .ok (.bipush 10, 2) := by decide +kernel
theorem dX6_does_26 : decode cX6_does 26 = .ok (.isub, 1) := by decide +kernel
theorem dX6_does_27 : decode cX6_does 27 = .ok (.iload_n 1, 1) := by decide +kernel
theorem dX6_does_28 : decode cX6_does 28 = .ok (.iastore, 1) := by decide +kernel
theorem dX6_does_29 : decode cX6_does 29 = .ok (.iconst 1, 1) := by decide +kernel
theorem dX6_does_30 : decode cX6_does 30 = .ok (.ireturn, 1) := by decide +kernel
theorem dX6_does_31 : decode cX6_does 31 = .ok (.aload_n 0, 1) := by decide +kernel
theorem dX6_does_32 : decode cX6_does 32 = .ok (.iload_n 1, 1) := by decide +kernel
theorem dX6_does_33 : decode cX6_does 33 = .ok (.iload_n 2, 1) := by decide +kernel
theorem dX6_does_34 : decode cX6_does 34 = .ok (.invokevirtual 152, 3) := by decide +kernel
theorem dX6_does_37 : decode cX6_does 37 = .ok (.ifCond .eq 16, 3) := by decide +kernel
theorem dX6_does_40 : decode cX6_does 40 = .ok (.aload_n 0, 1) := by decide +kernel
theorem dX6_does_41 : decode cX6_does 41 = .ok (.getfield 19, 3) := by decide +kernel
theorem dX6_does_44 : decode cX6_does 44 = .ok (.iload_n 1, 1) := by decide +kernel
theorem dX6_does_45 : decode cX6_does 45 = .ok (.iaload, 1) := by decide +kernel
theorem dX6_does_46 : decode cX6_does 46 = .ok (.invokestatic 140, 3) := by decide +kernel
theorem dX6_does_49 : decode cX6_does 49 = .ok (.iconst 1, 1) := by decide +kernel
theorem dX6_does_50 : decode cX6_does 50 = .ok (.if_icmp .eq 5, 3) := by decide +kernel
theorem dX6_does_53 : decode cX6_does 53 = .ok (.iconst 0, 1) := by decide +kernel
theorem dX6_does_54 : decode cX6_does 54 = .ok (.ireturn, 1) := by decide +kernel
theorem dX6_does_55 : decode cX6_does 55 = .ok (.aload_n 0, 1) := by decide +kernel
theorem dX6_does_56 : decode cX6_does 56 = .ok (.iload_n 1, 1) := by decide +kernel
theorem dX6_does_57 : decode cX6_does 57 = .ok (.aload_n 0, 1) := by decide +kernel
theorem dX6_does_58 : decode cX6_does 58 = .ok (.getfield 19, 3) := by decide +kernel
theorem dX6_does_61 : decode cX6_does 61 = .ok (.iload_n 1, 1) := by decide +kernel
theorem dX6_does_62 : decode cX6_does 62 = .ok (.iaload, 1) := by decide +kernel
theorem dX6_does_63 : decode cX6_does 63 = .ok (.invokestatic 130, 3) := by decide +kernel
theorem dX6_does_66 : decode cX6_does 66 = .ok (.invokevirtual 155, 3) := by decide +kernel
theorem dX6_does_69 : decode cX6_does 69 = .ok (.aload_n 0, 1) := by decide +kernel
theorem dX6_does_70 : decode cX6_does 70 = .ok (.iload_n 1, 1) := by decide +kernel
theorem dX6_does_71 : decode cX6_does 71 = .ok (.iload_n 2, 1) := by decide +kernel
theorem dX6_does_72 : decode cX6_does 72 = .ok (.invokevirtual 133, 3) := by decide +kernel
theorem dX6_does_75 : decode cX6_does 75 = .ok (.iconst 1, 1) := by decide +kernel
theorem dX6_does_76 : decode cX6_does 76 = .ok (.ireturn, 1) := by decide +kernel
theorem dX6_goDay_0 : decode cX6_goDay 0 = .ok (.iconst 0, 1) := by decide +kernel
theorem dX6_goDay_1 : decode cX6_goDay 1 = .ok (.istore_n 3, 1) := by decide +kernel
theorem dX6_goDay_2 : decode cX6_goDay 2 = .ok (.iload_n 3, 1) := by decide +kernel
theorem dX6_goDay_3 : decode cX6_goDay 3 = .ok (.iload_n 2, 1) := by decide +kernel
theorem dX6_goDay_4 : decode cX6_goDay 4 = .ok (.if_icmp .ge 40, 3) := by decide +kernel
theorem dX6_goDay_7 : decode cX6_goDay 7 = .ok (.aload_n 0, 1) := by decide +kernel
theorem dX6_goDay_8 : decode cX6_goDay 8 = .ok (.aload_n 0, 1) := by decide +kernel
theorem dX6_goDay_9 : decode cX6_goDay 9 = .ok (.getfield 16, 3) := by decide +kernel
theorem dX6_goDay_12 : decode cX6_goDay 12 = .ok (.iload_n 1, 1) := by decide +kernel
theorem dX6_goDay_13 : decode cX6_goDay 13 = .ok (.iconst 2, 1) := by decide +kernel
theorem dX6_goDay_14 : decode cX6_goDay 14 = .ok (.iload_n 3, 1) := by decide +kernel
theorem dX6_goDay_15 : decode cX6_goDay 15 = .ok (.imul, 1) := by decide +kernel
theorem dX6_goDay_16 : decode cX6_goDay 16 = .ok (.iadd, 1) := by decide +kernel
theorem dX6_goDay_17 : decode cX6_goDay 17 = .ok (.iaload, 1) := by decide +kernel
theorem dX6_goDay_18 : decode cX6_goDay 18 = .ok (.aload_n 0, 1) := by decide +kernel
theorem dX6_goDay_19 : decode cX6_goDay 19 = .ok (.getfield 16, 3) := by decide +kernel
theorem dX6_goDay_22 : decode cX6_goDay 22 = .ok (.iload_n 1, 1) := by decide +kernel
theorem dX6_goDay_23 : decode cX6_goDay 23 = .ok (.iconst 2, 1) := by decide +kernel
theorem dX6_goDay_24 : decode cX6_goDay 24 = .ok (.iload_n 3, 1) := by decide +kernel
theorem dX6_goDay_25 : decode cX6_goDay 25 = .ok (.imul, 1) := by decide +kernel
theorem dX6_goDay_26 : decode cX6_goDay 26 = .ok (.iadd, 1) := by decide +kernel
theorem dX6_goDay_27 : decode cX6_goDay 27 = .ok (.iconst 1, 1) := by decide +kernel
theorem dX6_goDay_28 : decode cX6_goDay 28 = .ok (.iadd, 1) := by decide +kernel
theorem dX6_goDay_29 : decode cX6_goDay 29 = .ok (.iaload, 1) := by decide +kernel
theorem dX6_goDay_30 : decode cX6_goDay 30 = .ok (.invokevirtual 158, 3) := by decide +kernel
theorem dX6_goDay_33 : decode cX6_goDay 33 = .ok (.ifCond .ne 5, 3) := by decide +kernel
theorem dX6_goDay_36 : decode cX6_goDay 36 = .ok (.iload_n 3, 1) := by decide +kernel
theorem dX6_goDay_37 : decode cX6_goDay 37 = .ok (.ireturn, 1) := by decide +kernel
theorem dX6_goDay_38 : decode cX6_goDay 38 = .ok (.iinc 3 1, 3) := by decide +kernel
theorem dX6_goDay_41 : decode cX6_goDay 41 = .ok (.goto (-39), 3) := by decide +kernel
theorem dX6_goDay_44 : decode cX6_goDay 44 = .ok (.bipush (-9), 2) := by decide +kernel
theorem dX6_goDay_46 : decode cX6_goDay 46 = .ok (.ireturn, 1) := by decide +kernel
theorem dX6_refusesPair_0 : decode cX6_refusesPair 0 = .ok (.iload_n 2, 1) := by decide +kernel
theorem dX6_refusesPair_1 : decode cX6_refusesPair 1 = .ok (.bipush 10, 2) := by decide +kernel
theorem dX6_refusesPair_3 : decode cX6_refusesPair 3 = .ok (.bipush 17, 2) := by decide +kernel
theorem dX6_refusesPair_5 : decode cX6_refusesPair 5 = .ok (.invokestatic 76, 3) := by decide +kernel
theorem dX6_refusesPair_8 : decode cX6_refusesPair 8 = .ok (.istore_n 3, 1) := by decide +kernel
theorem dX6_refusesPair_9 : decode cX6_refusesPair 9 = .ok (.iload_n 2, 1) := by decide +kernel
theorem dX6_refusesPair_10 : decode cX6_refusesPair 10 = .ok (.iconst 0, 1) := by decide +kernel
theorem dX6_refusesPair_11 : decode cX6_refusesPair 11 = .ok (.bipush 7, 2) := by decide +kernel
theorem dX6_refusesPair_13 : decode cX6_refusesPair 13 = .ok (.invokestatic 76, 3) := by decide +kernel
theorem dX6_refusesPair_16 : decode cX6_refusesPair 16 = .ok (.ifCond .ne 7, 3) := by decide +kernel
theorem dX6_refusesPair_19 : decode cX6_refusesPair 19 = .ok (.iload_n 3, 1) := by decide +kernel
theorem dX6_refusesPair_20 : decode cX6_refusesPair 20 = .ok (.ifCond .eq 17, 3) := by decide +kernel
theorem dX6_refusesPair_23 : decode cX6_refusesPair 23 = .ok (.iload_n 3, 1) := by decide +kernel
theorem dX6_refusesPair_24 : decode cX6_refusesPair 24 = .ok (.ifCond .eq 16, 3) := by decide +kernel
theorem dX6_refusesPair_27 : decode cX6_refusesPair 27 = .ok (.iload_n 1, 1) := by decide +kernel
theorem dX6_refusesPair_28 : decode cX6_refusesPair 28 = .ok (.iconst 0, 1) := by decide +kernel
theorem dX6_refusesPair_29 : decode cX6_refusesPair 29 = .ok (.bipush 9, 2) := by decide +kernel
theorem dX6_refusesPair_31 : decode cX6_refusesPair 31 = .ok (.invokestatic 76, 3) := by decide +kernel
theorem dX6_refusesPair_34 : decode cX6_refusesPair 34 = .ok (.ifCond .ne 6, 3) := by decide +kernel
theorem dX6_refusesPair_37 : decode cX6_refusesPair 37 = .ok (.bipush (-2), 2) := by decide +kernel
theorem dX6_refusesPair_39 : decode cX6_refusesPair 39 = .ok (.ireturn, 1) := by decide +kernel
theorem dX6_refusesPair_40 : decode cX6_refusesPair 40 = .ok (.iload_n 3, 1) := by decide +kernel
theorem dX6_refusesPair_41 : decode cX6_refusesPair 41 = .ok (.ifCond .ne 15, 3) := by decide +kernel
theorem dX6_refusesPair_44 : decode cX6_refusesPair 44 = .ok (.aload_n 0, 1) := by decide +kernel
theorem dX6_refusesPair_45 : decode cX6_refusesPair 45 = .ok (.iload_n 1, 1) := by decide +kernel
theorem dX6_refusesPair_46 : decode cX6_refusesPair 46 = .ok (.invokevirtual 83, 3) := by decide +kernel
theorem dX6_refusesPair_49 : decode cX6_refusesPair 49 = .ok (.ifCond .ne 7, 3) := by decide +kernel
theorem dX6_refusesPair_52 : decode cX6_refusesPair 52 = .ok (.iconst (-1), 1) := by decide +kernel
theorem dX6_refusesPair_53 : decode cX6_refusesPair 53 = .ok (.goto 4, 3) := by decide +kernel
theorem dX6_refusesPair_56 : decode cX6_refusesPair 56 = .ok (.iconst 0, 1) := by decide +kernel
theorem dX6_refusesPair_57 : decode cX6_refusesPair 57 = .ok (.ireturn, 1) := by decide +kernel
theorem dX6_day_0 : decode cX6_day 0 = .ok (.aload_n 0, 1) := by decide +kernel
theorem dX6_day_1 : decode cX6_day 1 = .ok (.iconst 0, 1) := by decide +kernel
theorem dX6_day_2 : decode cX6_day 2 = .ok (.putfield 70, 3) := by decide +kernel
theorem dX6_day_5 : decode cX6_day 5 = .ok (.iload_n 1, 1) := by decide +kernel
theorem dX6_day_6 : decode cX6_day 6 = .ok (.invokestatic 94, 3) := by decide +kernel
theorem dX6_day_9 : decode cX6_day 9 = .ok (.ifCond .ne 5, 3) := by decide +kernel
theorem dX6_day_12 : decode cX6_day 12 = .ok (.iconst (-1), 1) := by decide +kernel
theorem dX6_day_13 : decode cX6_day 13 = .ok (.ireturn, 1) := by decide +kernel
theorem dX6_day_14 : decode cX6_day 14 = .ok (.iload_n 2, 1) := by decide +kernel
theorem dX6_day_15 : decode cX6_day 15 = .ok (.invokestatic 97, 3) := by decide +kernel
theorem dX6_day_18 : decode cX6_day 18 = .ok (.ifCond .eq 36, 3) := by decide +kernel
theorem dX6_day_21 : decode cX6_day 21 = .ok (.iload 4, 2) := by decide +kernel
theorem dX6_day_23 : decode cX6_day 23 = .ok (.iconst 0, 1) := by decide +kernel
theorem dX6_day_24 : decode cX6_day 24 = .ok (.bipush 20, 2) := by decide +kernel
theorem dX6_day_26 : decode cX6_day 26 = .ok (.invokestatic 76, 3) := by decide +kernel
theorem dX6_day_29 : decode cX6_day 29 = .ok (.ifCond .eq 25, 3) := by decide +kernel
theorem dX6_day_32 : decode cX6_day 32 = .ok (.iload 5, 2) := by decide +kernel
theorem dX6_day_34 : decode cX6_day 34 = .ok (.iconst 0, 1) := by decide +kernel
theorem dX6_day_35 : decode cX6_day 35 = .ok (.iconst 4, 1) := by decide +kernel
theorem dX6_day_36 : decode cX6_day 36 = .ok (.invokestatic 76, 3) := by decide +kernel
theorem dX6_day_39 : decode cX6_day 39 = .ok (.ifCond .ne 18, 3) := by decide +kernel
theorem dX6_day_42 : decode cX6_day 42 = .ok (.iload 5, 2) := by decide +kernel
theorem dX6_day_44 : decode cX6_day 44 = .ok (.bipush 10, 2) := by decide +kernel
theorem dX6_day_46 : decode cX6_day 46 = .ok (.bipush 17, 2) := by decide +kernel
theorem dX6_day_48 : decode cX6_day 48 = .ok (.invokestatic 76, 3) := by decide +kernel
theorem dX6_day_51 : decode cX6_day 51 = .ok (.ifCond .ne 6, 3) := by decide +kernel
theorem dX6_day_54 : decode cX6_day 54 = .ok (.bipush (-2), 2) := by decide +kernel
theorem dX6_day_56 : decode cX6_day 56 = .ok (.ireturn, 1) := by decide +kernel
theorem dX6_day_57 : decode cX6_day 57 = .ok (.aload_n 0, 1) := by decide +kernel
theorem dX6_day_58 : decode cX6_day 58 = .ok (.iload_n 1, 1) := by decide +kernel
theorem dX6_day_59 : decode cX6_day 59 = .ok (.iload_n 2, 1) := by decide +kernel
theorem dX6_day_60 : decode cX6_day 60 = .ok (.iload_n 3, 1) := by decide +kernel
theorem dX6_day_61 : decode cX6_day 61 = .ok (.iconst 2, 1) := by decide +kernel
theorem dX6_day_62 : decode cX6_day 62 = .ok (.iload 4, 2) := by decide +kernel
theorem dX6_day_64 : decode cX6_day 64 = .ok (.imul, 1) := by decide +kernel
theorem dX6_day_65 : decode cX6_day 65 = .ok (.invokevirtual 100, 3) := by decide +kernel
theorem dX6_day_68 : decode cX6_day 68 = .ok (.istore 6, 2) := by decide +kernel
theorem dX6_day_70 : decode cX6_day 70 = .ok (.iload 6, 2) := by decide +kernel
theorem dX6_day_72 : decode cX6_day 72 = .ok (.ifCond .eq 10, 3) := by decide +kernel
theorem dX6_day_75 : decode cX6_day 75 = .ok (.aload_n 0, 1) := by decide +kernel
theorem dX6_day_76 : decode cX6_day 76 = .ok (.iload 6, 2) := by decide +kernel
theorem dX6_day_78 : decode cX6_day 78 = .ok (.invokevirtual 104, 3) := by decide +kernel
theorem dX6_day_81 : decode cX6_day 81 = .ok (.ireturn, 1) := by decide +kernel
theorem dX6_day_82 : decode cX6_day 82 = .ok (.aload_n 0, 1) := by decide +kernel
theorem dX6_day_83 : decode cX6_day 83 = .ok (.getfield 80, 3) := by decide +kernel
theorem dX6_day_86 : decode cX6_day 86 = .ok (.ifCond .ne 6, 3) := by decide +kernel
theorem dX6_day_89 : decode cX6_day 89 = .ok (.bipush (-3), 2) := by decide +kernel
theorem dX6_day_91 : decode cX6_day 91 = .ok (.ireturn, 1) := by decide +kernel
theorem dX6_day_92 : decode cX6_day 92 = .ok (.bipush 60, 2) := by decide +kernel
theorem dX6_day_94 : decode cX6_day 94 = .ok (.iload_n 1, 1) := by decide +kernel
theorem dX6_day_95 : decode cX6_day 95 = .ok (.imul, 1) := by decide +kernel
theorem dX6_day_96 : decode cX6_day 96 = .ok (.iload_n 3, 1) := by decide +kernel
theorem dX6_day_97 : decode cX6_day 97 = .ok (.iadd, 1) := by decide +kernel
theorem dX6_day_98 : decode cX6_day 98 = .ok (.istore 7, 2) := by decide +kernel
theorem dX6_day_100 : decode cX6_day 100 = .ok (.iconst 0, 1) := by decide +kernel
theorem dX6_day_101 : decode cX6_day 101 = .ok (.istore 8, 2) := by decide +kernel
theorem dX6_day_103 : decode cX6_day 103 = .ok (.iload 8, 2) := by decide +kernel
theorem dX6_day_105 : decode cX6_day 105 = .ok (.iload 4, 2) := by decide +kernel
theorem dX6_day_107 : decode cX6_day 107 = .ok (.if_icmp .ge 49, 3) := by decide +kernel
theorem dX6_day_110 : decode cX6_day 110 = .ok (.aload_n 0, 1) := by decide +kernel
theorem dX6_day_111 : decode cX6_day 111 = .ok (.aload_n 0, 1) := by decide +kernel
theorem dX6_day_112 : decode cX6_day 112 = .ok (.getfield 16, 3) := by decide +kernel
theorem dX6_day_115 : decode cX6_day 115 = .ok (.iload 7, 2) := by decide +kernel
theorem dX6_day_117 : decode cX6_day 117 = .ok (.iconst 2, 1) := by decide +kernel
theorem dX6_day_118 : decode cX6_day 118 = .ok (.iload 8, 2) := by decide +kernel
theorem dX6_day_120 : decode cX6_day 120 = .ok (.imul, 1) := by decide +kernel
theorem dX6_day_121 : decode cX6_day 121 = .ok (.iadd, 1) := by decide +kernel
theorem dX6_day_122 : decode cX6_day 122 = .ok (.iaload, 1) := by decide +kernel
theorem dX6_day_123 : decode cX6_day 123 = .ok (.aload_n 0, 1) := by decide +kernel
theorem dX6_day_124 : decode cX6_day 124 = .ok (.getfield 16, 3) := by decide +kernel
theorem dX6_day_127 : decode cX6_day 127 = .ok (.iload 7, 2) := by decide +kernel
theorem dX6_day_129 : decode cX6_day 129 = .ok (.iconst 2, 1) := by decide +kernel
theorem dX6_day_130 : decode cX6_day 130 = .ok (.iload 8, 2) := by decide +kernel
theorem dX6_day_132 : decode cX6_day 132 = .ok (.imul, 1) := by decide +kernel
theorem dX6_day_133 : decode cX6_day 133 = .ok (.iadd, 1) := by decide +kernel
theorem dX6_day_134 : decode cX6_day 134 = .ok (.iconst 1, 1) := by decide +kernel
theorem dX6_day_135 : decode cX6_day 135 = .ok (.iadd, 1) := by decide +kernel
theorem dX6_day_136 : decode cX6_day 136 = .ok (.iaload, 1) := by decide +kernel
theorem dX6_day_137 : decode cX6_day 137 = .ok (.invokevirtual 161, 3) := by decide +kernel
theorem dX6_day_140 : decode cX6_day 140 = .ok (.istore 9, 2) := by decide +kernel
theorem dX6_day_142 : decode cX6_day 142 = .ok (.iload 9, 2) := by decide +kernel
theorem dX6_day_144 : decode cX6_day 144 = .ok (.ifCond .eq 6, 3) := by decide +kernel
theorem dX6_day_147 : decode cX6_day 147 = .ok (.iload 9, 2) := by decide +kernel
theorem dX6_day_149 : decode cX6_day 149 = .ok (.ireturn, 1) := by decide +kernel
theorem dX6_day_150 : decode cX6_day 150 = .ok (.iinc 8 1, 3) := by decide +kernel
theorem dX6_day_153 : decode cX6_day 153 = .ok (.goto (-50), 3) := by decide +kernel
theorem dX6_day_156 : decode cX6_day 156 = .ok (.iconst 0, 1) := by decide +kernel
theorem dX6_day_157 : decode cX6_day 157 = .ok (.istore 8, 2) := by decide +kernel
theorem dX6_day_159 : decode cX6_day 159 = .ok (.iload 8, 2) := by decide +kernel
theorem dX6_day_161 : decode cX6_day 161 = .ok (.aload_n 0, 1) := by decide +kernel
theorem dX6_day_162 : decode cX6_day 162 = .ok (.getfield 80, 3) := by decide +kernel
theorem dX6_day_165 : decode cX6_day 165 = .ok (.if_icmp .ge 37, 3) := by decide +kernel
theorem dX6_day_168 : decode cX6_day 168 = .ok (.aload_n 0, 1) := by decide +kernel
theorem dX6_day_169 : decode cX6_day 169 = .ok (.getfield 46, 3) := by decide +kernel
theorem dX6_day_172 : decode cX6_day 172 = .ok (.iload 8, 2) := by decide +kernel
theorem dX6_day_174 : decode cX6_day 174 = .ok (.aload_n 0, 1) := by decide +kernel
theorem dX6_day_175 : decode cX6_day 175 = .ok (.getfield 19, 3) := by decide +kernel
theorem dX6_day_178 : decode cX6_day 178 = .ok (.iload 8, 2) := by decide +kernel
theorem dX6_day_180 : decode cX6_day 180 = .ok (.iaload, 1) := by decide +kernel
theorem dX6_day_181 : decode cX6_day 181 = .ok (.iastore, 1) := by decide +kernel
theorem dX6_day_182 : decode cX6_day 182 = .ok (.aload_n 0, 1) := by decide +kernel
theorem dX6_day_183 : decode cX6_day 183 = .ok (.getfield 49, 3) := by decide +kernel
theorem dX6_day_186 : decode cX6_day 186 = .ok (.iload 8, 2) := by decide +kernel
theorem dX6_day_188 : decode cX6_day 188 = .ok (.aload_n 0, 1) := by decide +kernel
theorem dX6_day_189 : decode cX6_day 189 = .ok (.getfield 25, 3) := by decide +kernel
theorem dX6_day_192 : decode cX6_day 192 = .ok (.iload 8, 2) := by decide +kernel
theorem dX6_day_194 : decode cX6_day 194 = .ok (.iaload, 1) := by decide +kernel
theorem dX6_day_195 : decode cX6_day 195 = .ok (.iastore, 1) := by decide +kernel
theorem dX6_day_196 : decode cX6_day 196 = .ok (.iinc 8 1, 3) := by decide +kernel
theorem dX6_day_199 : decode cX6_day 199 = .ok (.goto (-40), 3) := by decide +kernel
theorem dX6_day_202 : decode cX6_day 202 = .ok (.aload_n 0, 1) := by decide +kernel
theorem dX6_day_203 : decode cX6_day 203 = .ok (.iload 7, 2) := by decide +kernel
theorem dX6_day_205 : decode cX6_day 205 = .ok (.iload 4, 2) := by decide +kernel
theorem dX6_day_207 : decode cX6_day 207 = .ok (.invokevirtual 165, 3) := by decide +kernel
theorem dX6_day_210 : decode cX6_day 210 = .ok (.istore 8, 2) := by decide +kernel
theorem dX6_day_212 : decode cX6_day 212 = .ok (.aload_n 0, 1) := by decide +kernel
theorem dX6_day_213 : decode cX6_day 213 = .ok (.iload 5, 2) := by decide +kernel
theorem dX6_day_215 : decode cX6_day 215 = .ok (.invokevirtual 168, 3) := by decide +kernel
theorem dX6_day_218 : decode cX6_day 218 = .ok (.istore 9, 2) := by decide +kernel
theorem dX6_day_220 : decode cX6_day 220 = .ok (.iconst 0, 1) := by decide +kernel
theorem dX6_day_221 : decode cX6_day 221 = .ok (.istore 10, 2) := by decide +kernel
theorem dX6_day_223 : decode cX6_day 223 = .ok (.iload 10, 2) := by decide +kernel
theorem dX6_day_225 : decode cX6_day 225 = .ok (.aload_n 0, 1) := by decide +kernel
theorem dX6_day_226 : decode cX6_day 226 = .ok (.getfield 80, 3) := by decide +kernel
theorem dX6_day_229 : decode cX6_day 229 = .ok (.if_icmp .ge 37, 3) := by decide +kernel
theorem dX6_day_232 : decode cX6_day 232 = .ok (.aload_n 0, 1) := by decide +kernel
theorem dX6_day_233 : decode cX6_day 233 = .ok (.getfield 19, 3) := by decide +kernel
theorem dX6_day_236 : decode cX6_day 236 = .ok (.iload 10, 2) := by decide +kernel
theorem dX6_day_238 : decode cX6_day 238 = .ok (.aload_n 0, 1) := by decide +kernel
theorem dX6_day_239 : decode cX6_day 239 = .ok (.getfield 46, 3) := by decide +kernel
theorem dX6_day_242 : decode cX6_day 242 = .ok (.iload 10, 2) := by decide +kernel
theorem dX6_day_244 : decode cX6_day 244 = .ok (.iaload, 1) := by decide +kernel
theorem dX6_day_245 : decode cX6_day 245 = .ok (.iastore, 1) := by decide +kernel
theorem dX6_day_246 : decode cX6_day 246 = .ok (.aload_n 0, 1) := by decide +kernel
theorem dX6_day_247 : decode cX6_day 247 = .ok (.getfield 25, 3) := by decide +kernel
theorem dX6_day_250 : decode cX6_day 250 = .ok (.iload 10, 2) := by decide +kernel
theorem dX6_day_252 : decode cX6_day 252 = .ok (.aload_n 0, 1) := by decide +kernel
theorem dX6_day_253 : decode cX6_day 253 = .ok (.getfield 49, 3) := by decide +kernel
theorem dX6_day_256 : decode cX6_day 256 = .ok (.iload 10, 2) := by decide +kernel
theorem dX6_day_258 : decode cX6_day 258 = .ok (.iaload, 1) := by decide +kernel
theorem dX6_day_259 : decode cX6_day 259 = .ok (.iastore, 1) := by decide +kernel
theorem dX6_day_260 : decode cX6_day 260 = .ok (.iinc 10 1, 3) := by decide +kernel
theorem dX6_day_263 : decode cX6_day 263 = .ok (.goto (-40), 3) := by decide +kernel
theorem dX6_day_266 : decode cX6_day 266 = .ok (.iload 5, 2) := by decide +kernel
theorem dX6_day_268 : decode cX6_day 268 = .ok (.iconst 1, 1) := by decide +kernel
theorem dX6_day_269 : decode cX6_day 269 = .ok (.if_icmp .ne 8, 3) := by decide +kernel
theorem dX6_day_272 : decode cX6_day 272 = .ok (.iload 8, 2) := by decide +kernel
theorem dX6_day_274 : decode cX6_day 274 = .ok (.goto 20, 3) := by decide +kernel
theorem dX6_day_277 : decode cX6_day 277 = .ok (.iload 8, 2) := by decide +kernel
theorem dX6_day_279 : decode cX6_day 279 = .ok (.bipush (-9), 2) := by decide +kernel
theorem dX6_day_281 : decode cX6_day 281 = .ok (.if_icmp .ne 8, 3) := by decide +kernel
theorem dX6_day_284 : decode cX6_day 284 = .ok (.iload 9, 2) := by decide +kernel
theorem dX6_day_286 : decode cX6_day 286 = .ok (.goto 8, 3) := by decide +kernel
theorem dX6_day_289 : decode cX6_day 289 = .ok (.bipush (-100), 2) := by decide +kernel
theorem dX6_day_291 : decode cX6_day 291 = .ok (.iload 8, 2) := by decide +kernel
theorem dX6_day_293 : decode cX6_day 293 = .ok (.isub, 1) := by decide +kernel
theorem dX6_day_294 : decode cX6_day 294 = .ok (.ireturn, 1) := by decide +kernel
theorem dX6_tellDay_0 : decode cX6_tellDay 0 = .ok (.iload_n 1, 1) := by decide +kernel
theorem dX6_tellDay_1 : decode cX6_tellDay 1 = .ok (.bipush 10, 2) := by decide +kernel
theorem dX6_tellDay_3 : decode cX6_tellDay 3 = .ok (.if_icmp .lt 29, 3) := by decide +kernel
theorem dX6_tellDay_6 : decode cX6_tellDay 6 = .ok (.aload_n 0, 1) := by decide +kernel
theorem dX6_tellDay_7 : decode cX6_tellDay 7 = .ok (.iload_n 1, 1) := by decide +kernel
theorem dX6_tellDay_8 : decode cX6_tellDay 8 = .ok (.bipush 10, 2) := by decide +kernel
theorem dX6_tellDay_10 : decode cX6_tellDay 10 = .ok (.isub, 1) := by decide +kernel
theorem dX6_tellDay_11 : decode cX6_tellDay 11 = .ok (.invokevirtual 83, 3) := by decide +kernel
theorem dX6_tellDay_14 : decode cX6_tellDay 14 = .ok (.ifCond .eq 15, 3) := by decide +kernel
theorem dX6_tellDay_17 : decode cX6_tellDay 17 = .ok (.aload_n 0, 1) := by decide +kernel
theorem dX6_tellDay_18 : decode cX6_tellDay 18 = .ok (.getfield 19, 3) := by decide +kernel
theorem dX6_tellDay_21 : decode cX6_tellDay 21 = .ok (.iload_n 1, 1) := by decide +kernel
theorem dX6_tellDay_22 : decode cX6_tellDay 22 = .ok (.bipush 10, 2) := by decide +kernel
theorem dX6_tellDay_24 : decode cX6_tellDay 24 = .ok (.isub, 1) := by decide +kernel
theorem dX6_tellDay_25 : decode cX6_tellDay 25 = .ok (.iaload, 1) := by decide +kernel
theorem dX6_tellDay_26 : decode cX6_tellDay 26 = .ok (.goto 5, 3) := by decide +kernel
theorem dX6_tellDay_29 : decode cX6_tellDay 29 = .ok (.bipush (-9), 2) := by decide +kernel
theorem dX6_tellDay_31 : decode cX6_tellDay 31 = .ok (.ireturn, 1) := by decide +kernel
theorem dX6_tellDay_32 : decode cX6_tellDay 32 = .ok (.iload_n 1, 1) := by decide +kernel
theorem dX6_tellDay_33 : decode cX6_tellDay 33 = .ok (.tableswitch 50 0 3 #[31, 50, 40, 45], 31) := by decide +kernel
theorem dX6_tellDay_64 : decode cX6_tellDay 64 = .ok (.aload_n 0, 1) := by decide +kernel
theorem dX6_tellDay_65 : decode cX6_tellDay 65 = .ok (.invokevirtual 146, 3) := by decide +kernel
theorem dX6_tellDay_68 : decode cX6_tellDay 68 = .ok (.aload_n 0, 1) := by decide +kernel
theorem dX6_tellDay_69 : decode cX6_tellDay 69 = .ok (.invokevirtual 171, 3) := by decide +kernel
theorem dX6_tellDay_72 : decode cX6_tellDay 72 = .ok (.ireturn, 1) := by decide +kernel
theorem dX6_tellDay_73 : decode cX6_tellDay 73 = .ok (.aload_n 0, 1) := by decide +kernel
theorem dX6_tellDay_74 : decode cX6_tellDay 74 = .ok (.invokevirtual 175, 3) := by decide +kernel
theorem dX6_tellDay_77 : decode cX6_tellDay 77 = .ok (.ireturn, 1) := by decide +kernel
theorem dX6_tellDay_78 : decode cX6_tellDay 78 = .ok (.aload_n 0, 1) := by decide +kernel
theorem dX6_tellDay_79 : decode cX6_tellDay 79 = .ok (.invokevirtual 178, 3) := by decide +kernel
theorem dX6_tellDay_82 : decode cX6_tellDay 82 = .ok (.ireturn, 1) := by decide +kernel
theorem dX6_tellDay_83 : decode cX6_tellDay 83 = .ok (.aload_n 0, 1) := by decide +kernel
theorem dX6_tellDay_84 : decode cX6_tellDay 84 = .ok (.iconst 1, 1) := by decide +kernel
theorem dX6_tellDay_85 : decode cX6_tellDay 85 = .ok (.aload_n 0, 1) := by decide +kernel
theorem dX6_tellDay_86 : decode cX6_tellDay 86 = .ok (.getfield 80, 3) := by decide +kernel
theorem dX6_tellDay_89 : decode cX6_tellDay 89 = .ok (.ishl, 1) := by decide +kernel
theorem dX6_tellDay_90 : decode cX6_tellDay 90 = .ok (.iconst 1, 1) := by decide +kernel
theorem dX6_tellDay_91 : decode cX6_tellDay 91 = .ok (.isub, 1) := by decide +kernel
theorem dX6_tellDay_92 : decode cX6_tellDay 92 = .ok (.invokevirtual 181, 3) := by decide +kernel
theorem dX6_tellDay_95 : decode cX6_tellDay 95 = .ok (.ireturn, 1) := by decide +kernel
theorem dX6_far_0 : decode cX6_far 0 = .ok (.aload_n 0, 1) := by decide +kernel
theorem dX6_far_1 : decode cX6_far 1 = .ok (.iload_n 1, 1) := by decide +kernel
theorem dX6_far_2 : decode cX6_far 2 = .ok (.invokevirtual 83, 3) := by decide +kernel
theorem dX6_far_5 : decode cX6_far 5 = .ok (.ifCond .eq 11, 3) := by decide +kernel
theorem dX6_far_8 : decode cX6_far 8 = .ok (.aload_n 0, 1) := by decide +kernel
theorem dX6_far_9 : decode cX6_far 9 = .ok (.iload_n 2, 1) := by decide +kernel
theorem dX6_far_10 : decode cX6_far 10 = .ok (.invokevirtual 83, 3) := by decide +kernel
theorem dX6_far_13 : decode cX6_far 13 = .ok (.ifCond .ne 5, 3) := by decide +kernel
theorem dX6_far_16 : decode cX6_far 16 = .ok (.iconst (-1), 1) := by decide +kernel
theorem dX6_far_17 : decode cX6_far 17 = .ok (.ireturn, 1) := by decide +kernel
theorem dX6_far_18 : decode cX6_far 18 = .ok (.aload_n 0, 1) := by decide +kernel
theorem dX6_far_19 : decode cX6_far 19 = .ok (.invokevirtual 146, 3) := by decide +kernel
theorem dX6_far_22 : decode cX6_far 22 = .ok (.aload_n 0, 1) := by decide +kernel
theorem dX6_far_23 : decode cX6_far 23 = .ok (.getfield 37, 3) := by decide +kernel
theorem dX6_far_26 : decode cX6_far 26 = .ok (.bipush 8, 2) := by decide +kernel
theorem dX6_far_28 : decode cX6_far 28 = .ok (.iload_n 1, 1) := by decide +kernel
theorem dX6_far_29 : decode cX6_far 29 = .ok (.imul, 1) := by decide +kernel
theorem dX6_far_30 : decode cX6_far 30 = .ok (.iload_n 2, 1) := by decide +kernel
theorem dX6_far_31 : decode cX6_far 31 = .ok (.iadd, 1) := by decide +kernel
theorem dX6_far_32 : decode cX6_far 32 = .ok (.iaload, 1) := by decide +kernel
theorem dX6_far_33 : decode cX6_far 33 = .ok (.ireturn, 1) := by decide +kernel
theorem dX6_way_0 : decode cX6_way 0 = .ok (.aload_n 0, 1) := by decide +kernel
theorem dX6_way_1 : decode cX6_way 1 = .ok (.iload_n 1, 1) := by decide +kernel
theorem dX6_way_2 : decode cX6_way 2 = .ok (.invokevirtual 83, 3) := by decide +kernel
theorem dX6_way_5 : decode cX6_way 5 = .ok (.ifCond .eq 11, 3) := by decide +kernel
theorem dX6_way_8 : decode cX6_way 8 = .ok (.aload_n 0, 1) := by decide +kernel
theorem dX6_way_9 : decode cX6_way 9 = .ok (.iload_n 2, 1) := by decide +kernel
theorem dX6_way_10 : decode cX6_way 10 = .ok (.invokevirtual 83, 3) := by decide +kernel
theorem dX6_way_13 : decode cX6_way 13 = .ok (.ifCond .ne 5, 3) := by decide +kernel
theorem dX6_way_16 : decode cX6_way 16 = .ok (.iconst (-1), 1) := by decide +kernel
theorem dX6_way_17 : decode cX6_way 17 = .ok (.ireturn, 1) := by decide +kernel
theorem dX6_way_18 : decode cX6_way 18 = .ok (.iload_n 3, 1) := by decide +kernel
theorem dX6_way_19 : decode cX6_way 19 = .ok (.iconst 0, 1) := by decide +kernel
theorem dX6_way_20 : decode cX6_way 20 = .ok (.bipush 7, 2) := by decide +kernel
theorem dX6_way_22 : decode cX6_way 22 = .ok (.invokestatic 76, 3) := by decide +kernel
theorem dX6_way_25 : decode cX6_way 25 = .ok (.ifCond .ne 6, 3) := by decide +kernel
theorem dX6_way_28 : decode cX6_way 28 = .ok (.bipush (-2), 2) := by decide +kernel
theorem dX6_way_30 : decode cX6_way 30 = .ok (.ireturn, 1) := by decide +kernel
theorem dX6_way_31 : decode cX6_way 31 = .ok (.aload_n 0, 1) := by decide +kernel
theorem dX6_way_32 : decode cX6_way 32 = .ok (.invokevirtual 146, 3) := by decide +kernel
theorem dX6_way_35 : decode cX6_way 35 = .ok (.aload_n 0, 1) := by decide +kernel
theorem dX6_way_36 : decode cX6_way 36 = .ok (.getfield 37, 3) := by decide +kernel
theorem dX6_way_39 : decode cX6_way 39 = .ok (.bipush 8, 2) := by decide +kernel
theorem dX6_way_41 : decode cX6_way 41 = .ok (.iload_n 1, 1) := by decide +kernel
theorem dX6_way_42 : decode cX6_way 42 = .ok (.imul, 1) := by decide +kernel
theorem dX6_way_43 : decode cX6_way 43 = .ok (.iload_n 2, 1) := by decide +kernel
theorem dX6_way_44 : decode cX6_way 44 = .ok (.iadd, 1) := by decide +kernel
theorem dX6_way_45 : decode cX6_way 45 = .ok (.iaload, 1) := by decide +kernel
theorem dX6_way_46 : decode cX6_way 46 = .ok (.istore 4, 2) := by decide +kernel
theorem dX6_way_48 : decode cX6_way 48 = .ok (.iload_n 3, 1) := by decide +kernel
theorem dX6_way_49 : decode cX6_way 49 = .ok (.iload 4, 2) := by decide +kernel
theorem dX6_way_51 : decode cX6_way 51 = .ok (.if_icmp .le 6, 3) := by decide +kernel
theorem dX6_way_54 : decode cX6_way 54 = .ok (.bipush (-9), 2) := by decide +kernel
theorem dX6_way_56 : decode cX6_way 56 = .ok (.ireturn, 1) := by decide +kernel
theorem dX6_way_57 : decode cX6_way 57 = .ok (.iconst 0, 1) := by decide +kernel
theorem dX6_way_58 : decode cX6_way 58 = .ok (.istore 5, 2) := by decide +kernel
theorem dX6_way_60 : decode cX6_way 60 = .ok (.iload 5, 2) := by decide +kernel
theorem dX6_way_62 : decode cX6_way 62 = .ok (.aload_n 0, 1) := by decide +kernel
theorem dX6_way_63 : decode cX6_way 63 = .ok (.getfield 80, 3) := by decide +kernel
theorem dX6_way_66 : decode cX6_way 66 = .ok (.if_icmp .ge 47, 3) := by decide +kernel
theorem dX6_way_69 : decode cX6_way 69 = .ok (.aload_n 0, 1) := by decide +kernel
theorem dX6_way_70 : decode cX6_way 70 = .ok (.getfield 37, 3) := by decide +kernel
theorem dX6_way_73 : decode cX6_way 73 = .ok (.bipush 8, 2) := by decide +kernel
theorem dX6_way_75 : decode cX6_way 75 = .ok (.iload_n 1, 1) := by decide +kernel
theorem dX6_way_76 : decode cX6_way 76 = .ok (.imul, 1) := by decide +kernel
theorem dX6_way_77 : decode cX6_way 77 = .ok (.iload 5, 2) := by decide +kernel
theorem dX6_way_79 : decode cX6_way 79 = .ok (.iadd, 1) := by decide +kernel
theorem dX6_way_80 : decode cX6_way 80 = .ok (.iaload, 1) := by decide +kernel
theorem dX6_way_81 : decode cX6_way 81 = .ok (.iload_n 3, 1) := by decide +kernel
theorem dX6_way_82 : decode cX6_way 82 = .ok (.if_icmp .ne 25, 3) := by decide +kernel
theorem dX6_way_85 : decode cX6_way 85 = .ok (.aload_n 0, 1) := by decide +kernel
theorem dX6_way_86 : decode cX6_way 86 = .ok (.getfield 37, 3) := by decide +kernel
theorem dX6_way_89 : decode cX6_way 89 = .ok (.bipush 8, 2) := by decide +kernel
theorem dX6_way_91 : decode cX6_way 91 = .ok (.iload 5, 2) := by decide +kernel
theorem dX6_way_93 : decode cX6_way 93 = .ok (.imul, 1) := by decide +kernel
theorem dX6_way_94 : decode cX6_way 94 = .ok (.iload_n 2, 1) := by decide +kernel
theorem dX6_way_95 : decode cX6_way 95 = .ok (.iadd, 1) := by decide +kernel
theorem dX6_way_96 : decode cX6_way 96 = .ok (.iaload, 1) := by decide +kernel
theorem dX6_way_97 : decode cX6_way 97 = .ok (.iload 4, 2) := by decide +kernel
theorem dX6_way_99 : decode cX6_way 99 = .ok (.iload_n 3, 1) := by decide +kernel
theorem dX6_way_100 : decode cX6_way 100 = .ok (.isub, 1) := by decide +kernel
theorem dX6_way_101 : decode cX6_way 101 = .ok (.if_icmp .ne 6, 3) := by decide +kernel
theorem dX6_way_104 : decode cX6_way 104 = .ok (.iload 5, 2) := by decide +kernel
theorem dX6_way_106 : decode cX6_way 106 = .ok (.ireturn, 1) := by decide +kernel
theorem dX6_way_107 : decode cX6_way 107 = .ok (.iinc 5 1, 3) := by decide +kernel
theorem dX6_way_110 : decode cX6_way 110 = .ok (.goto (-50), 3) := by decide +kernel
theorem dX6_way_113 : decode cX6_way 113 = .ok (.bipush (-9), 2) := by decide +kernel
theorem dX6_way_115 : decode cX6_way 115 = .ok (.ireturn, 1) := by decide +kernel
theorem dX6_middle_0 : decode cX6_middle 0 = .ok (.iload_n 1, 1) := by decide +kernel
theorem dX6_middle_1 : decode cX6_middle 1 = .ok (.iconst 0, 1) := by decide +kernel
theorem dX6_middle_2 : decode cX6_middle 2 = .ok (.iconst 1, 1) := by decide +kernel
theorem dX6_middle_3 : decode cX6_middle 3 = .ok (.invokestatic 76, 3) := by decide +kernel
theorem dX6_middle_6 : decode cX6_middle 6 = .ok (.ifCond .ne 6, 3) := by decide +kernel
theorem dX6_middle_9 : decode cX6_middle 9 = .ok (.bipush (-2), 2) := by decide +kernel
theorem dX6_middle_11 : decode cX6_middle 11 = .ok (.ireturn, 1) := by decide +kernel
theorem dX6_middle_12 : decode cX6_middle 12 = .ok (.aload_n 0, 1) := by decide +kernel
theorem dX6_middle_13 : decode cX6_middle 13 = .ok (.getfield 80, 3) := by decide +kernel
theorem dX6_middle_16 : decode cX6_middle 16 = .ok (.ifCond .ne 6, 3) := by decide +kernel
theorem dX6_middle_19 : decode cX6_middle 19 = .ok (.bipush (-3), 2) := by decide +kernel
theorem dX6_middle_21 : decode cX6_middle 21 = .ok (.ireturn, 1) := by decide +kernel
theorem dX6_middle_22 : decode cX6_middle 22 = .ok (.aload_n 0, 1) := by decide +kernel
theorem dX6_middle_23 : decode cX6_middle 23 = .ok (.invokevirtual 146, 3) := by decide +kernel
theorem dX6_middle_26 : decode cX6_middle 26 = .ok (.iload_n 1, 1) := by decide +kernel
theorem dX6_middle_27 : decode cX6_middle 27 = .ok (.iconst 1, 1) := by decide +kernel
theorem dX6_middle_28 : decode cX6_middle 28 = .ok (.if_icmp .ne 8, 3) := by decide +kernel
theorem dX6_middle_31 : decode cX6_middle 31 = .ok (.aload_n 0, 1) := by decide +kernel
theorem dX6_middle_32 : decode cX6_middle 32 = .ok (.invokevirtual 171, 3) := by decide +kernel
theorem dX6_middle_35 : decode cX6_middle 35 = .ok (.ireturn, 1) := by decide +kernel
theorem dX6_middle_36 : decode cX6_middle 36 = .ok (.bipush 8, 2) := by decide +kernel
theorem dX6_middle_38 : decode cX6_middle 38 = .ok (.istore_n 2, 1) := by decide +kernel
theorem dX6_middle_39 : decode cX6_middle 39 = .ok (.iconst 0, 1) := by decide +kernel
theorem dX6_middle_40 : decode cX6_middle 40 = .ok (.istore_n 3, 1) := by decide +kernel
theorem dX6_middle_41 : decode cX6_middle 41 = .ok (.iconst 0, 1) := by decide +kernel
theorem dX6_middle_42 : decode cX6_middle 42 = .ok (.istore 4, 2) := by decide +kernel
theorem dX6_middle_44 : decode cX6_middle 44 = .ok (.iload 4, 2) := by decide +kernel
theorem dX6_middle_46 : decode cX6_middle 46 = .ok (.aload_n 0, 1) := by decide +kernel
theorem dX6_middle_47 : decode cX6_middle 47 = .ok (.getfield 80, 3) := by decide +kernel
theorem dX6_middle_50 : decode cX6_middle 50 = .ok (.if_icmp .ge 60, 3) := by decide +kernel
theorem dX6_middle_53 : decode cX6_middle 53 = .ok (.aload_n 0, 1) := by decide +kernel
theorem dX6_middle_54 : decode cX6_middle 54 = .ok (.iload 4, 2) := by decide +kernel
theorem dX6_middle_56 : decode cX6_middle 56 = .ok (.invokevirtual 143, 3) := by decide +kernel
theorem dX6_middle_59 : decode cX6_middle 59 = .ok (.istore 5, 2) := by decide +kernel
theorem dX6_middle_61 : decode cX6_middle 61 = .ok (.iload 5, 2) := by decide +kernel
theorem dX6_middle_63 : decode cX6_middle 63 = .ok (.iload_n 2, 1) := by decide +kernel
theorem dX6_middle_64 : decode cX6_middle 64 = .ok (.if_icmp .ge 10, 3) := by decide +kernel
theorem dX6_middle_67 : decode cX6_middle 67 = .ok (.iconst 1, 1) := by decide +kernel
theorem dX6_middle_68 : decode cX6_middle 68 = .ok (.iload 4, 2) := by decide +kernel
theorem dX6_middle_70 : decode cX6_middle 70 = .ok (.ishl, 1) := by decide +kernel
theorem dX6_middle_71 : decode cX6_middle 71 = .ok (.goto 19, 3) := by decide +kernel
theorem dX6_middle_74 : decode cX6_middle 74 = .ok (.iload 5, 2) := by decide +kernel
theorem dX6_middle_76 : decode cX6_middle 76 = .ok (.iload_n 2, 1) := by decide +kernel
theorem dX6_middle_77 : decode cX6_middle 77 = .ok (.if_icmp .ne 12, 3) := by decide +kernel
theorem dX6_middle_80 : decode cX6_middle 80 = .ok (.iload_n 3, 1) := by decide +kernel
theorem dX6_middle_81 : decode cX6_middle 81 = .ok (.iconst 1, 1) := by decide +kernel
theorem dX6_middle_82 : decode cX6_middle 82 = .ok (.iload 4, 2) := by decide +kernel
theorem dX6_middle_84 : decode cX6_middle 84 = .ok (.ishl, 1) := by decide +kernel
theorem dX6_middle_85 : decode cX6_middle 85 = .ok (.ior, 1) := by decide +kernel
theorem dX6_middle_86 : decode cX6_middle 86 = .ok (.goto 4, 3) := by decide +kernel
theorem dX6_middle_89 : decode cX6_middle 89 = .ok (.iload_n 3, 1) := by decide +kernel
theorem dX6_middle_90 : decode cX6_middle 90 = .ok (.istore_n 3, 1) := by decide +kernel
theorem dX6_middle_91 : decode cX6_middle 91 = .ok (.iload 5, 2) := by decide +kernel
theorem dX6_middle_93 : decode cX6_middle 93 = .ok (.iload_n 2, 1) := by decide +kernel
theorem dX6_middle_94 : decode cX6_middle 94 = .ok (.if_icmp .ge 8, 3) := by decide +kernel
theorem dX6_middle_97 : decode cX6_middle 97 = .ok (.iload 5, 2) := by decide +kernel
theorem dX6_middle_99 : decode cX6_middle 99 = .ok (.goto 4, 3) := by decide +kernel
theorem dX6_middle_102 : decode cX6_middle 102 = .ok (.iload_n 2, 1) := by decide +kernel
theorem dX6_middle_103 : decode cX6_middle 103 = .ok (.istore_n 2, 1) := by decide +kernel
theorem dX6_middle_104 : decode cX6_middle 104 = .ok (.iinc 4 1, 3) := by decide +kernel
theorem dX6_middle_107 : decode cX6_middle 107 = .ok (.goto (-63), 3) := by decide +kernel
theorem dX6_middle_110 : decode cX6_middle 110 = .ok (.iload_n 3, 1) := by decide +kernel
theorem dX6_middle_111 : decode cX6_middle 111 = .ok (.ireturn, 1) := by decide +kernel
theorem dX6_numberOf_0 : decode cX6_numberOf 0 = .ok (.aload_n 0, 1) := by decide +kernel
theorem dX6_numberOf_1 : decode cX6_numberOf 1 = .ok (.invokevirtual 149, 3) := by decide +kernel
theorem dX6_numberOf_4 : decode cX6_numberOf 4 = .ok (.iconst 0, 1) := by decide +kernel
theorem dX6_numberOf_5 : decode cX6_numberOf 5 = .ok (.istore_n 1, 1) := by decide +kernel
theorem dX6_numberOf_6 : decode cX6_numberOf 6 = .ok (.iconst 0, 1) := by decide +kernel
theorem dX6_numberOf_7 : decode cX6_numberOf 7 = .ok (.istore_n 2, 1) := by decide +kernel
theorem dX6_numberOf_8 : decode cX6_numberOf 8 = .ok (.iload_n 2, 1) := by decide +kernel
theorem dX6_numberOf_9 : decode cX6_numberOf 9 = .ok (.aload_n 0, 1) := by decide +kernel
theorem dX6_numberOf_10 : decode cX6_numberOf 10 = .ok (.getfield 80, 3) := by decide +kernel
theorem dX6_numberOf_13 : decode cX6_numberOf 13 = .ok (.iconst 2, 1) := by decide +kernel
theorem dX6_numberOf_14 : decode cX6_numberOf 14 = .ok (.isub, 1) := by decide +kernel
theorem dX6_numberOf_15 : decode cX6_numberOf 15 = .ok (.if_icmp .ge 23, 3) := by decide +kernel
theorem dX6_numberOf_18 : decode cX6_numberOf 18 = .ok (.iload_n 1, 1) := by decide +kernel
theorem dX6_numberOf_19 : decode cX6_numberOf 19 = .ok (.aload_n 0, 1) := by decide +kernel
theorem dX6_numberOf_20 : decode cX6_numberOf 20 = .ok (.getfield 80, 3) := by decide +kernel
theorem dX6_numberOf_23 : decode cX6_numberOf 23 = .ok (.imul, 1) := by decide +kernel
theorem dX6_numberOf_24 : decode cX6_numberOf 24 = .ok (.aload_n 0, 1) := by decide +kernel
theorem dX6_numberOf_25 : decode cX6_numberOf 25 = .ok (.getfield 40, 3) := by decide +kernel
theorem dX6_numberOf_28 : decode cX6_numberOf 28 = .ok (.iload_n 2, 1) := by decide +kernel
theorem dX6_numberOf_29 : decode cX6_numberOf 29 = .ok (.iaload, 1) := by decide +kernel
theorem dX6_numberOf_30 : decode cX6_numberOf 30 = .ok (.iadd, 1) := by decide +kernel
theorem dX6_numberOf_31 : decode cX6_numberOf 31 = .ok (.istore_n 1, 1) := by decide +kernel
theorem dX6_numberOf_32 : decode cX6_numberOf 32 = .ok (.iinc 2 1, 3) := by decide +kernel
theorem dX6_numberOf_35 : decode cX6_numberOf 35 = .ok (.goto (-27), 3) := by decide +kernel
theorem dX6_numberOf_38 : decode cX6_numberOf 38 = .ok (.iload_n 1, 1) := by decide +kernel
theorem dX6_numberOf_39 : decode cX6_numberOf 39 = .ok (.ireturn, 1) := by decide +kernel
theorem dX6_number_0 : decode cX6_number 0 = .ok (.aload_n 0, 1) := by decide +kernel
theorem dX6_number_1 : decode cX6_number 1 = .ok (.getfield 80, 3) := by decide +kernel
theorem dX6_number_4 : decode cX6_number 4 = .ok (.ifCond .ne 8, 3) := by decide +kernel
theorem dX6_number_7 : decode cX6_number 7 = .ok (.bipush (-3), 2) := by decide +kernel
theorem dX6_number_9 : decode cX6_number 9 = .ok (.goto 7, 3) := by decide +kernel
theorem dX6_number_12 : decode cX6_number 12 = .ok (.aload_n 0, 1) := by decide +kernel
theorem dX6_number_13 : decode cX6_number 13 = .ok (.invokevirtual 175, 3) := by decide +kernel
theorem dX6_number_16 : decode cX6_number 16 = .ok (.ireturn, 1) := by decide +kernel
theorem dX6_orders_0 : decode cX6_orders 0 = .ok (.iconst 1, 1) := by decide +kernel
theorem dX6_orders_1 : decode cX6_orders 1 = .ok (.istore_n 1, 1) := by decide +kernel
theorem dX6_orders_2 : decode cX6_orders 2 = .ok (.iconst 2, 1) := by decide +kernel
theorem dX6_orders_3 : decode cX6_orders 3 = .ok (.istore_n 2, 1) := by decide +kernel
theorem dX6_orders_4 : decode cX6_orders 4 = .ok (.iload_n 2, 1) := by decide +kernel
theorem dX6_orders_5 : decode cX6_orders 5 = .ok (.aload_n 0, 1) := by decide +kernel
theorem dX6_orders_6 : decode cX6_orders 6 = .ok (.getfield 80, 3) := by decide +kernel
theorem dX6_orders_9 : decode cX6_orders 9 = .ok (.if_icmp .gt 13, 3) := by decide +kernel
theorem dX6_orders_12 : decode cX6_orders 12 = .ok (.iload_n 1, 1) := by decide +kernel
theorem dX6_orders_13 : decode cX6_orders 13 = .ok (.iload_n 2, 1) := by decide +kernel
theorem dX6_orders_14 : decode cX6_orders 14 = .ok (.imul, 1) := by decide +kernel
theorem dX6_orders_15 : decode cX6_orders 15 = .ok (.istore_n 1, 1) := by decide +kernel
theorem dX6_orders_16 : decode cX6_orders 16 = .ok (.iinc 2 1, 3) := by decide +kernel
theorem dX6_orders_19 : decode cX6_orders 19 = .ok (.goto (-15), 3) := by decide +kernel
theorem dX6_orders_22 : decode cX6_orders 22 = .ok (.iload_n 1, 1) := by decide +kernel
theorem dX6_orders_23 : decode cX6_orders 23 = .ok (.ireturn, 1) := by decide +kernel
theorem dX6_findNames_0 : decode cX6_findNames 0 = .ok (.iload_n 1, 1) := by decide +kernel
theorem dX6_findNames_1 : decode cX6_findNames 1 = .ok (.istore_n 2, 1) := by decide +kernel
theorem dX6_findNames_2 : decode cX6_findNames 2 = .ok (.iconst 1, 1) := by decide +kernel
theorem dX6_findNames_3 : decode cX6_findNames 3 = .ok (.aload_n 0, 1) := by decide +kernel
theorem dX6_findNames_4 : decode cX6_findNames 4 = .ok (.getfield 80, 3) := by decide +kernel
theorem dX6_findNames_7 : decode cX6_findNames 7 = .ok (.ishl, 1) := by decide +kernel
theorem dX6_findNames_8 : decode cX6_findNames 8 = .ok (.iconst 1, 1) := by decide +kernel
theorem dX6_findNames_9 : decode cX6_findNames 9 = .ok (.isub, 1) := by decide +kernel
theorem dX6_findNames_10 : decode cX6_findNames 10 = .ok (.istore_n 3, 1) := by decide +kernel
theorem dX6_findNames_11 : decode cX6_findNames 11 = .ok (.iconst 0, 1) := by decide +kernel
theorem dX6_findNames_12 : decode cX6_findNames 12 = .ok (.istore 4, 2) := by decide +kernel
theorem dX6_findNames_14 : decode cX6_findNames 14 = .ok (.iload 4, 2) := by decide +kernel
theorem dX6_findNames_16 : decode cX6_findNames 16 = .ok (.aload_n 0, 1) := by decide +kernel
theorem dX6_findNames_17 : decode cX6_findNames 17 = .ok (.getfield 80, 3) := by decide +kernel
theorem dX6_findNames_20 : decode cX6_findNames 20 = .ok (.if_icmp .ge 88, 3) := by decide +kernel
theorem dX6_findNames_23 : decode cX6_findNames 23 = .ok (.iload_n 2, 1) := by decide +kernel
theorem dX6_findNames_24 : decode cX6_findNames 24 = .ok (.aload_n 0, 1) := by decide +kernel
theorem dX6_findNames_25 : decode cX6_findNames 25 = .ok (.getfield 80, 3) := by decide +kernel
theorem dX6_findNames_28 : decode cX6_findNames 28 = .ok (.iload 4, 2) := by decide +kernel
theorem dX6_findNames_30 : decode cX6_findNames 30 = .ok (.isub, 1) := by decide +kernel
theorem dX6_findNames_31 : decode cX6_findNames 31 = .ok (.irem, 1) := by decide +kernel
theorem dX6_findNames_32 : decode cX6_findNames 32 = .ok (.istore 5, 2) := by decide +kernel
theorem dX6_findNames_34 : decode cX6_findNames 34 = .ok (.iload_n 2, 1) := by decide +kernel
theorem dX6_findNames_35 : decode cX6_findNames 35 = .ok (.aload_n 0, 1) := by decide +kernel
theorem dX6_findNames_36 : decode cX6_findNames 36 = .ok (.getfield 80, 3) := by decide +kernel
theorem dX6_findNames_39 : decode cX6_findNames 39 = .ok (.iload 4, 2) := by decide +kernel
theorem dX6_findNames_41 : decode cX6_findNames 41 = .ok (.isub, 1) := by decide +kernel
theorem dX6_findNames_42 : decode cX6_findNames 42 = .ok (.idiv, 1) := by decide +kernel
theorem dX6_findNames_43 : decode cX6_findNames 43 = .ok (.istore_n 2, 1) := by decide +kernel
theorem dX6_findNames_44 : decode cX6_findNames 44 = .ok (.iload_n 3, 1) := by decide +kernel
theorem dX6_findNames_45 : decode cX6_findNames 45 = .ok (.invokestatic 130, 3) := by decide +kernel
theorem dX6_findNames_48 : decode cX6_findNames 48 = .ok (.istore 6, 2) := by decide +kernel
theorem dX6_findNames_50 : decode cX6_findNames 50 = .ok (.iconst 0, 1) := by decide +kernel
theorem dX6_findNames_51 : decode cX6_findNames 51 = .ok (.istore 7, 2) := by decide +kernel
theorem dX6_findNames_53 : decode cX6_findNames 53 = .ok (.iload 7, 2) := by decide +kernel
theorem dX6_findNames_55 : decode cX6_findNames 55 = .ok (.iload 5, 2) := by decide +kernel
theorem dX6_findNames_57 : decode cX6_findNames 57 = .ok (.if_icmp .ge 27, 3) := by decide +kernel
theorem dX6_findNames_60 : decode cX6_findNames 60 = .ok (.iinc 6 1, 3) := by decide +kernel
theorem dX6_findNames_63 : decode cX6_findNames 63 = .ok (.iload_n 3, 1) := by decide +kernel
theorem dX6_findNames_64 : decode cX6_findNames 64 = .ok (.iload 6, 2) := by decide +kernel
theorem dX6_findNames_66 : decode cX6_findNames 66 = .ok (.invokestatic 87, 3) := by decide +kernel
theorem dX6_findNames_69 : decode cX6_findNames 69 = .ok (.ifCond .ne 9, 3) := by decide +kernel
theorem dX6_findNames_72 : decode cX6_findNames 72 = .ok (.iinc 6 1, 3) := by decide +kernel
theorem dX6_findNames_75 : decode cX6_findNames 75 = .ok (.goto (-12), 3) := by decide +kernel
theorem dX6_findNames_78 : decode cX6_findNames 78 = .ok (.iinc 7 1, 3) := by decide +kernel
theorem dX6_findNames_81 : decode cX6_findNames 81 = .ok (.goto (-28), 3) := by decide +kernel
theorem dX6_findNames_84 : decode cX6_findNames 84 = .ok (.aload_n 0, 1) := by decide +kernel
theorem dX6_findNames_85 : decode cX6_findNames 85 = .ok (.getfield 52, 3) := by decide +kernel
