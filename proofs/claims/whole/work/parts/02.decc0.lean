theorem dX5_init_0 : decode cX5_init 0 = .ok (.aload_n 0, 1) := by decide +kernel
theorem dX5_init_1 : decode cX5_init 1 = .ok (.invokespecial 5, 3) := by decide +kernel
theorem dX5_init_4 : decode cX5_init 4 = .ok (.aload_n 0, 1) := by decide +kernel
theorem dX5_init_5 : decode cX5_init 5 = .ok (.new 11, 3) := by decide +kernel
theorem dX5_init_8 : decode cX5_init 8 = .ok (.dup, 1) := by decide +kernel
theorem dX5_init_9 : decode cX5_init 9 = .ok (.invokespecial 13, 3) := by decide +kernel
theorem dX5_init_12 : decode cX5_init 12 = .ok (.putfield 14, 3) := by decide +kernel
theorem dX5_init_15 : decode cX5_init 15 = .ok (.aload_n 0, 1) := by decide +kernel
theorem dX5_init_16 : decode cX5_init 16 = .ok (.new 11, 3) := by decide +kernel
theorem dX5_init_19 : decode cX5_init 19 = .ok (.dup, 1) := by decide +kernel
theorem dX5_init_20 : decode cX5_init 20 = .ok (.invokespecial 13, 3) := by decide +kernel
theorem dX5_init_23 : decode cX5_init 23 = .ok (.putfield 18, 3) := by decide +kernel
theorem dX5_init_26 : decode cX5_init 26 = .ok (.aload_n 0, 1) := by decide +kernel
theorem dX5_init_27 : decode cX5_init 27 = .ok (.new 21, 3) := by decide +kernel
theorem dX5_init_30 : decode cX5_init 30 = .ok (.dup, 1) := by decide +kernel
theorem dX5_init_31 : decode cX5_init 31 = .ok (.invokespecial 23, 3) := by decide +kernel
theorem dX5_init_34 : decode cX5_init 34 = .ok (.putfield 24, 3) := by decide +kernel
theorem dX5_init_37 : decode cX5_init 37 = .ok (.aload_n 0, 1) := by decide +kernel
theorem dX5_init_38 : decode cX5_init 38 = .ok (.new 28, 3) := by decide +kernel
theorem dX5_init_41 : decode cX5_init 41 = .ok (.dup, 1) := by decide +kernel
theorem dX5_init_42 : decode cX5_init 42 = .ok (.invokespecial 30, 3) := by decide +kernel
theorem dX5_init_45 : decode cX5_init 45 = .ok (.putfield 31, 3) := by decide +kernel
theorem dX5_init_48 : decode cX5_init 48 = .ok (.aload_n 0, 1) := by decide +kernel
theorem dX5_init_49 : decode cX5_init 49 = .ok (.iconst 4, 1) := by decide +kernel
theorem dX5_init_50 : decode cX5_init 50 = .ok (.anewarray 35, 3) := by decide +kernel
theorem dX5_init_53 : decode cX5_init 53 = .ok (.putfield 37, 3) := by decide +kernel
theorem dX5_init_56 : decode cX5_init 56 = .ok (.iconst 0, 1) := by decide +kernel
theorem dX5_init_57 : decode cX5_init 57 = .ok (.istore_n 1, 1) := by decide +kernel
theorem dX5_init_58 : decode cX5_init 58 = .ok (.iload_n 1, 1) := by decide +kernel
theorem dX5_init_59 : decode cX5_init 59 = .ok (.iconst 4, 1) := by decide +kernel
theorem dX5_init_60 : decode cX5_init 60 = .ok (.if_icmp .ge 22, 3) := by decide +kernel
theorem dX5_init_63 : decode cX5_init 63 = .ok (.aload_n 0, 1) := by decide +kernel
theorem dX5_init_64 : decode cX5_init 64 = .ok (.getfield 37, 3) := by decide +kernel
theorem dX5_init_67 : decode cX5_init 67 = .ok (.iload_n 1, 1) := by decide +kernel
theorem dX5_init_68 : decode cX5_init 68 = .ok (.new 35, 3) := by decide +kernel
theorem dX5_init_71 : decode cX5_init 71 = .ok (.dup, 1) := by decide +kernel
theorem dX5_init_72 : decode cX5_init 72 = .ok (.invokespecial 41, 3) := by decide +kernel
theorem dX5_init_75 : decode cX5_init 75 = .ok (.aastore, 1) := by decide +kernel
theorem dX5_init_76 : decode cX5_init 76 = .ok (.iinc 1 1, 3) := by decide +kernel
theorem dX5_init_79 : decode cX5_init 79 = .ok (.goto (-21), 3) := by decide +kernel
theorem dX5_init_82 : decode cX5_init 82 = .ok (.return_, 1) := by decide +kernel
theorem dX5_vine_0 : decode cX5_vine 0 = .ok (.aload_n 0, 1) := by decide +kernel
theorem dX5_vine_1 : decode cX5_vine 1 = .ok (.iconst 0, 1) := by decide +kernel
theorem dX5_vine_2 : decode cX5_vine 2 = .ok (.putfield 42, 3) := by decide +kernel
theorem dX5_vine_5 : decode cX5_vine 5 = .ok (.iload_n 1, 1) := by decide +kernel
theorem dX5_vine_6 : decode cX5_vine 6 = .ok (.invokestatic 46, 3) := by decide +kernel
theorem dX5_vine_9 : decode cX5_vine 9 = .ok (.ifCond .ne 5, 3) := by decide +kernel
theorem dX5_vine_12 : decode cX5_vine 12 = .ok (.iconst (-1), 1) := by decide +kernel
theorem dX5_vine_13 : decode cX5_vine 13 = .ok (.ireturn, 1) := by decide +kernel
theorem dX5_vine_14 : decode cX5_vine 14 = .ok (.iload_n 2, 1) := by decide +kernel
theorem dX5_vine_15 : decode cX5_vine 15 = .ok (.invokestatic 50, 3) := by decide +kernel
theorem dX5_vine_18 : decode cX5_vine 18 = .ok (.ifCond .ne 6, 3) := by decide +kernel
theorem dX5_vine_21 : decode cX5_vine 21 = .ok (.bipush (-2), 2) := by decide +kernel
theorem dX5_vine_23 : decode cX5_vine 23 = .ok (.ireturn, 1) := by decide +kernel
theorem dX5_vine_24 : decode cX5_vine 24 = .ok (.aload_n 0, 1) := by decide +kernel
theorem dX5_vine_25 : decode cX5_vine 25 = .ok (.getfield 37, 3) := by decide +kernel
theorem dX5_vine_28 : decode cX5_vine 28 = .ok (.iload_n 1, 1) := by decide +kernel
theorem dX5_vine_29 : decode cX5_vine 29 = .ok (.aaload, 1) := by decide +kernel
theorem dX5_vine_30 : decode cX5_vine 30 = .ok (.astore 5, 2) := by decide +kernel
theorem dX5_vine_32 : decode cX5_vine 32 = .ok (.aload 5, 2) := by decide +kernel
theorem dX5_vine_34 : decode cX5_vine 34 = .ok (.iload_n 2, 1) := by decide +kernel
theorem dX5_vine_35 : decode cX5_vine 35 = .ok (.invokevirtual 53, 3) := by decide +kernel
theorem dX5_vine_38 : decode cX5_vine 38 = .ok (.istore 6, 2) := by decide +kernel
theorem dX5_vine_40 : decode cX5_vine 40 = .ok (.iload 6, 2) := by decide +kernel
theorem dX5_vine_42 : decode cX5_vine 42 = .ok (.ifCond .ne 11, 3) := by decide +kernel
theorem dX5_vine_45 : decode cX5_vine 45 = .ok (.iload 4, 2) := by decide +kernel
theorem dX5_vine_47 : decode cX5_vine 47 = .ok (.ifCond .ge 6, 3) := by decide +kernel
theorem dX5_vine_50 : decode cX5_vine 50 = .ok (.iconst 4, 1) := by decide +kernel
theorem dX5_vine_51 : decode cX5_vine 51 = .ok (.istore 6, 2) := by decide +kernel
theorem dX5_vine_53 : decode cX5_vine 53 = .ok (.iload 6, 2) := by decide +kernel
theorem dX5_vine_55 : decode cX5_vine 55 = .ok (.ifCond .ne 17, 3) := by decide +kernel
theorem dX5_vine_58 : decode cX5_vine 58 = .ok (.aload 5, 2) := by decide +kernel
theorem dX5_vine_60 : decode cX5_vine 60 = .ok (.iload_n 3, 1) := by decide +kernel
theorem dX5_vine_61 : decode cX5_vine 61 = .ok (.iload 4, 2) := by decide +kernel
theorem dX5_vine_63 : decode cX5_vine 63 = .ok (.invokevirtual 57, 3) := by decide +kernel
theorem dX5_vine_66 : decode cX5_vine 66 = .ok (.ifCond .ne 6, 3) := by decide +kernel
theorem dX5_vine_69 : decode cX5_vine 69 = .ok (.iconst 3, 1) := by decide +kernel
theorem dX5_vine_70 : decode cX5_vine 70 = .ok (.istore 6, 2) := by decide +kernel
theorem dX5_vine_72 : decode cX5_vine 72 = .ok (.iload 6, 2) := by decide +kernel
theorem dX5_vine_74 : decode cX5_vine 74 = .ok (.ifCond .eq 10, 3) := by decide +kernel
theorem dX5_vine_77 : decode cX5_vine 77 = .ok (.aload_n 0, 1) := by decide +kernel
theorem dX5_vine_78 : decode cX5_vine 78 = .ok (.iload 6, 2) := by decide +kernel
theorem dX5_vine_80 : decode cX5_vine 80 = .ok (.invokevirtual 61, 3) := by decide +kernel
theorem dX5_vine_83 : decode cX5_vine 83 = .ok (.ireturn, 1) := by decide +kernel
theorem dX5_vine_84 : decode cX5_vine 84 = .ok (.aload 5, 2) := by decide +kernel
theorem dX5_vine_86 : decode cX5_vine 86 = .ok (.iload_n 3, 1) := by decide +kernel
theorem dX5_vine_87 : decode cX5_vine 87 = .ok (.iload 4, 2) := by decide +kernel
theorem dX5_vine_89 : decode cX5_vine 89 = .ok (.invokestatic 64, 3) := by decide +kernel
theorem dX5_vine_92 : decode cX5_vine 92 = .ok (.istore 7, 2) := by decide +kernel
theorem dX5_vine_94 : decode cX5_vine 94 = .ok (.iload 7, 2) := by decide +kernel
theorem dX5_vine_96 : decode cX5_vine 96 = .ok (.bipush (-9), 2) := by decide +kernel
theorem dX5_vine_98 : decode cX5_vine 98 = .ok (.if_icmp .eq 9, 3) := by decide +kernel
theorem dX5_vine_101 : decode cX5_vine 101 = .ok (.bipush (-100), 2) := by decide +kernel
theorem dX5_vine_103 : decode cX5_vine 103 = .ok (.iload 7, 2) := by decide +kernel
theorem dX5_vine_105 : decode cX5_vine 105 = .ok (.isub, 1) := by decide +kernel
theorem dX5_vine_106 : decode cX5_vine 106 = .ok (.ireturn, 1) := by decide +kernel
theorem dX5_vine_107 : decode cX5_vine 107 = .ok (.aload_n 0, 1) := by decide +kernel
theorem dX5_vine_108 : decode cX5_vine 108 = .ok (.getfield 14, 3) := by decide +kernel
theorem dX5_vine_111 : decode cX5_vine 111 = .ok (.aload 5, 2) := by decide +kernel
theorem dX5_vine_113 : decode cX5_vine 113 = .ok (.iload_n 3, 1) := by decide +kernel
theorem dX5_vine_114 : decode cX5_vine 114 = .ok (.invokevirtual 70, 3) := by decide +kernel
theorem dX5_vine_117 : decode cX5_vine 117 = .ok (.aload_n 0, 1) := by decide +kernel
theorem dX5_vine_118 : decode cX5_vine 118 = .ok (.iconst 0, 1) := by decide +kernel
theorem dX5_vine_119 : decode cX5_vine 119 = .ok (.putfield 74, 3) := by decide +kernel
theorem dX5_vine_122 : decode cX5_vine 122 = .ok (.aload_n 0, 1) := by decide +kernel
theorem dX5_vine_123 : decode cX5_vine 123 = .ok (.getfield 31, 3) := by decide +kernel
theorem dX5_vine_126 : decode cX5_vine 126 = .ok (.iconst 0, 1) := by decide +kernel
theorem dX5_vine_127 : decode cX5_vine 127 = .ok (.putfield 77, 3) := by decide +kernel
theorem dX5_vine_130 : decode cX5_vine 130 = .ok (.aload_n 0, 1) := by decide +kernel
theorem dX5_vine_131 : decode cX5_vine 131 = .ok (.getfield 14, 3) := by decide +kernel
theorem dX5_vine_134 : decode cX5_vine 134 = .ok (.getfield 80, 3) := by decide +kernel
theorem dX5_vine_137 : decode cX5_vine 137 = .ok (.ireturn, 1) := by decide +kernel
theorem dX5_ofPost_0 : decode cX5_ofPost 0 = .ok (.aload_n 0, 1) := by decide +kernel
theorem dX5_ofPost_1 : decode cX5_ofPost 1 = .ok (.getfield 14, 3) := by decide +kernel
theorem dX5_ofPost_4 : decode cX5_ofPost 4 = .ok (.iload_n 1, 1) := by decide +kernel
theorem dX5_ofPost_5 : decode cX5_ofPost 5 = .ok (.invokevirtual 83, 3) := by decide +kernel
theorem dX5_ofPost_8 : decode cX5_ofPost 8 = .ok (.ifCond .ne 5, 3) := by decide +kernel
theorem dX5_ofPost_11 : decode cX5_ofPost 11 = .ok (.iconst (-1), 1) := by decide +kernel
theorem dX5_ofPost_12 : decode cX5_ofPost 12 = .ok (.ireturn, 1) := by decide +kernel
theorem dX5_ofPost_13 : decode cX5_ofPost 13 = .ok (.iload_n 2, 1) := by decide +kernel
theorem dX5_ofPost_14 : decode cX5_ofPost 14 = .ok (.tableswitch 99 0 5 #[38, 48, 58, 67, 80, 90], 38) := by decide +kernel
theorem dX5_ofPost_52 : decode cX5_ofPost 52 = .ok (.aload_n 0, 1) := by decide +kernel
theorem dX5_ofPost_53 : decode cX5_ofPost 53 = .ok (.getfield 14, 3) := by decide +kernel
theorem dX5_ofPost_56 : decode cX5_ofPost 56 = .ok (.getfield 86, 3) := by decide +kernel
theorem dX5_ofPost_59 : decode cX5_ofPost 59 = .ok (.iload_n 1, 1) := by decide +kernel
theorem dX5_ofPost_60 : decode cX5_ofPost 60 = .ok (.iaload, 1) := by decide +kernel
theorem dX5_ofPost_61 : decode cX5_ofPost 61 = .ok (.ireturn, 1) := by decide +kernel
theorem dX5_ofPost_62 : decode cX5_ofPost 62 = .ok (.aload_n 0, 1) := by decide +kernel
theorem dX5_ofPost_63 : decode cX5_ofPost 63 = .ok (.getfield 14, 3) := by decide +kernel
theorem dX5_ofPost_66 : decode cX5_ofPost 66 = .ok (.getfield 90, 3) := by decide +kernel
theorem dX5_ofPost_69 : decode cX5_ofPost 69 = .ok (.iload_n 1, 1) := by decide +kernel
theorem dX5_ofPost_70 : decode cX5_ofPost 70 = .ok (.iaload, 1) := by decide +kernel
theorem dX5_ofPost_71 : decode cX5_ofPost 71 = .ok (.ireturn, 1) := by decide +kernel
theorem dX5_ofPost_72 : decode cX5_ofPost 72 = .ok (.aload_n 0, 1) := by decide +kernel
theorem dX5_ofPost_73 : decode cX5_ofPost 73 = .ok (.getfield 14, 3) := by decide +kernel
theorem dX5_ofPost_76 : decode cX5_ofPost 76 = .ok (.iload_n 1, 1) := by decide +kernel
theorem dX5_ofPost_77 : decode cX5_ofPost 77 = .ok (.invokevirtual 93, 3) := by decide +kernel
theorem dX5_ofPost_80 : decode cX5_ofPost 80 = .ok (.ireturn, 1) := by decide +kernel
theorem dX5_ofPost_81 : decode cX5_ofPost 81 = .ok (.aload_n 0, 1) := by decide +kernel
theorem dX5_ofPost_82 : decode cX5_ofPost 82 = .ok (.getfield 14, 3) := by decide +kernel
theorem dX5_ofPost_85 : decode cX5_ofPost 85 = .ok (.getfield 96, 3) := by decide +kernel
theorem dX5_ofPost_88 : decode cX5_ofPost 88 = .ok (.iload_n 1, 1) := by decide +kernel
theorem dX5_ofPost_89 : decode cX5_ofPost 89 = .ok (.iaload, 1) := by decide +kernel
theorem dX5_ofPost_90 : decode cX5_ofPost 90 = .ok (.invokestatic 99, 3) := by decide +kernel
theorem dX5_ofPost_93 : decode cX5_ofPost 93 = .ok (.ireturn, 1) := by decide +kernel
theorem dX5_ofPost_94 : decode cX5_ofPost 94 = .ok (.aload_n 0, 1) := by decide +kernel
theorem dX5_ofPost_95 : decode cX5_ofPost 95 = .ok (.getfield 14, 3) := by decide +kernel
theorem dX5_ofPost_98 : decode cX5_ofPost 98 = .ok (.getfield 96, 3) := by decide +kernel
theorem dX5_ofPost_101 : decode cX5_ofPost 101 = .ok (.iload_n 1, 1) := by decide +kernel
theorem dX5_ofPost_102 : decode cX5_ofPost 102 = .ok (.iaload, 1) := by decide +kernel
theorem dX5_ofPost_103 : decode cX5_ofPost 103 = .ok (.ireturn, 1) := by decide +kernel
theorem dX5_ofPost_104 : decode cX5_ofPost 104 = .ok (.aload_n 0, 1) := by decide +kernel
theorem dX5_ofPost_105 : decode cX5_ofPost 105 = .ok (.getfield 14, 3) := by decide +kernel
theorem dX5_ofPost_108 : decode cX5_ofPost 108 = .ok (.iload_n 1, 1) := by decide +kernel
theorem dX5_ofPost_109 : decode cX5_ofPost 109 = .ok (.invokevirtual 104, 3) := by decide +kernel
theorem dX5_ofPost_112 : decode cX5_ofPost 112 = .ok (.ireturn, 1) := by decide +kernel
theorem dX5_ofPost_113 : decode cX5_ofPost 113 = .ok (.bipush (-2), 2) := by decide +kernel
theorem dX5_ofPost_115 : decode cX5_ofPost 115 = .ok (.ireturn, 1) := by decide +kernel
theorem dX5_load_0 : decode cX5_load 0 = .ok (.aload_n 0, 1) := by decide +kernel
theorem dX5_load_1 : decode cX5_load 1 = .ok (.getfield 14, 3) := by decide +kernel
theorem dX5_load_4 : decode cX5_load 4 = .ok (.iload_n 1, 1) := by decide +kernel
theorem dX5_load_5 : decode cX5_load 5 = .ok (.invokevirtual 83, 3) := by decide +kernel
theorem dX5_load_8 : decode cX5_load 8 = .ok (.ifCond .ne 5, 3) := by decide +kernel
theorem dX5_load_11 : decode cX5_load 11 = .ok (.iconst (-1), 1) := by decide +kernel
theorem dX5_load_12 : decode cX5_load 12 = .ok (.ireturn, 1) := by decide +kernel
theorem dX5_load_13 : decode cX5_load 13 = .ok (.iload_n 2, 1) := by decide +kernel
theorem dX5_load_14 : decode cX5_load 14 = .ok (.ifCond .lt 9, 3) := by decide +kernel
theorem dX5_load_17 : decode cX5_load 17 = .ok (.iload_n 2, 1) := by decide +kernel
theorem dX5_load_18 : decode cX5_load 18 = .ok (.bipush 9, 2) := by decide +kernel
theorem dX5_load_20 : decode cX5_load 20 = .ok (.if_icmp .le 6, 3) := by decide +kernel
theorem dX5_load_23 : decode cX5_load 23 = .ok (.bipush (-2), 2) := by decide +kernel
theorem dX5_load_25 : decode cX5_load 25 = .ok (.ireturn, 1) := by decide +kernel
theorem dX5_load_26 : decode cX5_load 26 = .ok (.aload_n 0, 1) := by decide +kernel
theorem dX5_load_27 : decode cX5_load 27 = .ok (.getfield 14, 3) := by decide +kernel
theorem dX5_load_30 : decode cX5_load 30 = .ok (.getfield 90, 3) := by decide +kernel
theorem dX5_load_33 : decode cX5_load 33 = .ok (.iload_n 1, 1) := by decide +kernel
theorem dX5_load_34 : decode cX5_load 34 = .ok (.iaload, 1) := by decide +kernel
theorem dX5_load_35 : decode cX5_load 35 = .ok (.istore_n 3, 1) := by decide +kernel
theorem dX5_load_36 : decode cX5_load 36 = .ok (.aload_n 0, 1) := by decide +kernel
theorem dX5_load_37 : decode cX5_load 37 = .ok (.getfield 14, 3) := by decide +kernel
theorem dX5_load_40 : decode cX5_load 40 = .ok (.getfield 90, 3) := by decide +kernel
theorem dX5_load_43 : decode cX5_load 43 = .ok (.iload_n 1, 1) := by decide +kernel
theorem dX5_load_44 : decode cX5_load 44 = .ok (.iload_n 2, 1) := by decide +kernel
theorem dX5_load_45 : decode cX5_load 45 = .ok (.iastore, 1) := by decide +kernel
theorem dX5_load_46 : decode cX5_load 46 = .ok (.iload_n 3, 1) := by decide +kernel
theorem dX5_load_47 : decode cX5_load 47 = .ok (.ireturn, 1) := by decide +kernel
theorem dX5_row_0 : decode cX5_row 0 = .ok (.iload_n 1, 1) := by decide +kernel
theorem dX5_row_1 : decode cX5_row 1 = .ok (.ifCond .lt 8, 3) := by decide +kernel
theorem dX5_row_4 : decode cX5_row 4 = .ok (.iload_n 1, 1) := by decide +kernel
theorem dX5_row_5 : decode cX5_row 5 = .ok (.iconst 5, 1) := by decide +kernel
theorem dX5_row_6 : decode cX5_row 6 = .ok (.if_icmp .le 6, 3) := by decide +kernel
theorem dX5_row_9 : decode cX5_row 9 = .ok (.bipush (-2), 2) := by decide +kernel
theorem dX5_row_11 : decode cX5_row 11 = .ok (.ireturn, 1) := by decide +kernel
theorem dX5_row_12 : decode cX5_row 12 = .ok (.aload_n 0, 1) := by decide +kernel
theorem dX5_row_13 : decode cX5_row 13 = .ok (.getfield 14, 3) := by decide +kernel
theorem dX5_row_16 : decode cX5_row 16 = .ok (.getfield 80, 3) := by decide +kernel
theorem dX5_row_19 : decode cX5_row 19 = .ok (.ifCond .ne 6, 3) := by decide +kernel
theorem dX5_row_22 : decode cX5_row 22 = .ok (.bipush (-3), 2) := by decide +kernel
theorem dX5_row_24 : decode cX5_row 24 = .ok (.ireturn, 1) := by decide +kernel
theorem dX5_row_25 : decode cX5_row 25 = .ok (.iload_n 1, 1) := by decide +kernel
theorem dX5_row_26 : decode cX5_row 26 = .ok (.aload_n 0, 1) := by decide +kernel
theorem dX5_row_27 : decode cX5_row 27 = .ok (.getfield 14, 3) := by decide +kernel
theorem dX5_row_30 : decode cX5_row 30 = .ok (.getfield 80, 3) := by decide +kernel
theorem dX5_row_33 : decode cX5_row 33 = .ok (.iconst 2, 1) := by decide +kernel
theorem dX5_row_34 : decode cX5_row 34 = .ok (.isub, 1) := by decide +kernel
theorem dX5_row_35 : decode cX5_row 35 = .ok (.if_icmp .lt 6, 3) := by decide +kernel
theorem dX5_row_38 : decode cX5_row 38 = .ok (.bipush (-9), 2) := by decide +kernel
theorem dX5_row_40 : decode cX5_row 40 = .ok (.ireturn, 1) := by decide +kernel
theorem dX5_row_41 : decode cX5_row 41 = .ok (.aload_n 0, 1) := by decide +kernel
theorem dX5_row_42 : decode cX5_row 42 = .ok (.getfield 14, 3) := by decide +kernel
theorem dX5_row_45 : decode cX5_row 45 = .ok (.invokevirtual 107, 3) := by decide +kernel
theorem dX5_row_48 : decode cX5_row 48 = .ok (.aload_n 0, 1) := by decide +kernel
theorem dX5_row_49 : decode cX5_row 49 = .ok (.getfield 14, 3) := by decide +kernel
theorem dX5_row_52 : decode cX5_row 52 = .ok (.getfield 110, 3) := by decide +kernel
theorem dX5_row_55 : decode cX5_row 55 = .ok (.iload_n 1, 1) := by decide +kernel
theorem dX5_row_56 : decode cX5_row 56 = .ok (.iaload, 1) := by decide +kernel
theorem dX5_row_57 : decode cX5_row 57 = .ok (.ireturn, 1) := by decide +kernel
theorem dX5_graft_0 : decode cX5_graft 0 = .ok (.aload_n 0, 1) := by decide +kernel
theorem dX5_graft_1 : decode cX5_graft 1 = .ok (.getfield 14, 3) := by decide +kernel
theorem dX5_graft_4 : decode cX5_graft 4 = .ok (.iload_n 1, 1) := by decide +kernel
theorem dX5_graft_5 : decode cX5_graft 5 = .ok (.invokevirtual 83, 3) := by decide +kernel
theorem dX5_graft_8 : decode cX5_graft 8 = .ok (.ifCond .eq 19, 3) := by decide +kernel
theorem dX5_graft_11 : decode cX5_graft 11 = .ok (.aload_n 0, 1) := by decide +kernel
theorem dX5_graft_12 : decode cX5_graft 12 = .ok (.getfield 14, 3) := by decide +kernel
theorem dX5_graft_15 : decode cX5_graft 15 = .ok (.iload_n 2, 1) := by decide +kernel
theorem dX5_graft_16 : decode cX5_graft 16 = .ok (.invokevirtual 83, 3) := by decide +kernel
theorem dX5_graft_19 : decode cX5_graft 19 = .ok (.ifCond .eq 8, 3) := by decide +kernel
theorem dX5_graft_22 : decode cX5_graft 22 = .ok (.iload_n 1, 1) := by decide +kernel
theorem dX5_graft_23 : decode cX5_graft 23 = .ok (.iload_n 2, 1) := by decide +kernel
theorem dX5_graft_24 : decode cX5_graft 24 = .ok (.if_icmp .ne 5, 3) := by decide +kernel
theorem dX5_graft_27 : decode cX5_graft 27 = .ok (.iconst (-1), 1) := by decide +kernel
theorem dX5_graft_28 : decode cX5_graft 28 = .ok (.ireturn, 1) := by decide +kernel
theorem dX5_graft_29 : decode cX5_graft 29 = .ok (.aload_n 0, 1) := by decide +kernel
theorem dX5_graft_30 : decode cX5_graft 30 = .ok (.getfield 14, 3) := by decide +kernel
theorem dX5_graft_33 : decode cX5_graft 33 = .ok (.iload_n 1, 1) := by decide +kernel
theorem dX5_graft_34 : decode cX5_graft 34 = .ok (.invokevirtual 113, 3) := by decide +kernel
theorem dX5_graft_37 : decode cX5_graft 37 = .ok (.ifCond .ne 6, 3) := by decide +kernel
theorem dX5_graft_40 : decode cX5_graft 40 = .ok (.bipush (-3), 2) := by decide +kernel
theorem dX5_graft_42 : decode cX5_graft 42 = .ok (.ireturn, 1) := by decide +kernel
theorem dX5_graft_43 : decode cX5_graft 43 = .ok (.aload_n 0, 1) := by decide +kernel
theorem dX5_graft_44 : decode cX5_graft 44 = .ok (.dup, 1) := by decide +kernel
theorem dX5_graft_45 : decode cX5_graft 45 = .ok (.getfield 74, 3) := by decide +kernel
theorem dX5_graft_48 : decode cX5_graft 48 = .ok (.iconst 1, 1) := by decide +kernel
theorem dX5_graft_49 : decode cX5_graft 49 = .ok (.iadd, 1) := by decide +kernel
theorem dX5_graft_50 : decode cX5_graft 50 = .ok (.putfield 74, 3) := by decide +kernel
theorem dX5_graft_53 : decode cX5_graft 53 = .ok (.aload_n 0, 1) := by decide +kernel
theorem dX5_graft_54 : decode cX5_graft 54 = .ok (.getfield 14, 3) := by decide +kernel
theorem dX5_graft_57 : decode cX5_graft 57 = .ok (.iload_n 1, 1) := by decide +kernel
theorem dX5_graft_58 : decode cX5_graft 58 = .ok (.iload_n 2, 1) := by decide +kernel
theorem dX5_graft_59 : decode cX5_graft 59 = .ok (.invokevirtual 116, 3) := by decide +kernel
theorem dX5_graft_62 : decode cX5_graft 62 = .ok (.ireturn, 1) := by decide +kernel
theorem dX5_day_0 : decode cX5_day 0 = .ok (.aload_n 0, 1) := by decide +kernel
theorem dX5_day_1 : decode cX5_day 1 = .ok (.iconst 0, 1) := by decide +kernel
theorem dX5_day_2 : decode cX5_day 2 = .ok (.putfield 42, 3) := by decide +kernel
theorem dX5_day_5 : decode cX5_day 5 = .ok (.iload_n 1, 1) := by decide +kernel
theorem dX5_day_6 : decode cX5_day 6 = .ok (.invokestatic 46, 3) := by decide +kernel
theorem dX5_day_9 : decode cX5_day 9 = .ok (.ifCond .ne 5, 3) := by decide +kernel
theorem dX5_day_12 : decode cX5_day 12 = .ok (.iconst (-1), 1) := by decide +kernel
theorem dX5_day_13 : decode cX5_day 13 = .ok (.ireturn, 1) := by decide +kernel
theorem dX5_day_14 : decode cX5_day 14 = .ok (.iload_n 2, 1) := by decide +kernel
theorem dX5_day_15 : decode cX5_day 15 = .ok (.invokestatic 50, 3) := by decide +kernel
theorem dX5_day_18 : decode cX5_day 18 = .ok (.ifCond .eq 23, 3) := by decide +kernel
theorem dX5_day_21 : decode cX5_day 21 = .ok (.iload 4, 2) := by decide +kernel
theorem dX5_day_23 : decode cX5_day 23 = .ok (.ifCond .lt 18, 3) := by decide +kernel
theorem dX5_day_26 : decode cX5_day 26 = .ok (.iload 4, 2) := by decide +kernel
theorem dX5_day_28 : decode cX5_day 28 = .ok (.bipush 20, 2) := by decide +kernel
theorem dX5_day_30 : decode cX5_day 30 = .ok (.if_icmp .gt 11, 3) := by decide +kernel
theorem dX5_day_33 : decode cX5_day 33 = .ok (.iload 5, 2) := by decide +kernel
theorem dX5_day_35 : decode cX5_day 35 = .ok (.invokestatic 120, 3) := by decide +kernel
theorem dX5_day_38 : decode cX5_day 38 = .ok (.ifCond .ne 6, 3) := by decide +kernel
theorem dX5_day_41 : decode cX5_day 41 = .ok (.bipush (-2), 2) := by decide +kernel
theorem dX5_day_43 : decode cX5_day 43 = .ok (.ireturn, 1) := by decide +kernel
theorem dX5_day_44 : decode cX5_day 44 = .ok (.aload_n 0, 1) := by decide +kernel
theorem dX5_day_45 : decode cX5_day 45 = .ok (.getfield 37, 3) := by decide +kernel
theorem dX5_day_48 : decode cX5_day 48 = .ok (.iload_n 1, 1) := by decide +kernel
theorem dX5_day_49 : decode cX5_day 49 = .ok (.aaload, 1) := by decide +kernel
theorem dX5_day_50 : decode cX5_day 50 = .ok (.astore 6, 2) := by decide +kernel
theorem dX5_day_52 : decode cX5_day 52 = .ok (.aload 6, 2) := by decide +kernel
theorem dX5_day_54 : decode cX5_day 54 = .ok (.iload_n 2, 1) := by decide +kernel
theorem dX5_day_55 : decode cX5_day 55 = .ok (.invokevirtual 53, 3) := by decide +kernel
theorem dX5_day_58 : decode cX5_day 58 = .ok (.istore 7, 2) := by decide +kernel
theorem dX5_day_60 : decode cX5_day 60 = .ok (.iload 7, 2) := by decide +kernel
theorem dX5_day_62 : decode cX5_day 62 = .ok (.ifCond .ne 19, 3) := by decide +kernel
theorem dX5_day_65 : decode cX5_day 65 = .ok (.aload 6, 2) := by decide +kernel
theorem dX5_day_67 : decode cX5_day 67 = .ok (.iload_n 3, 1) := by decide +kernel
theorem dX5_day_68 : decode cX5_day 68 = .ok (.iconst 2, 1) := by decide +kernel
theorem dX5_day_69 : decode cX5_day 69 = .ok (.iload 4, 2) := by decide +kernel
theorem dX5_day_71 : decode cX5_day 71 = .ok (.imul, 1) := by decide +kernel
theorem dX5_day_72 : decode cX5_day 72 = .ok (.invokevirtual 57, 3) := by decide +kernel
theorem dX5_day_75 : decode cX5_day 75 = .ok (.ifCond .ne 6, 3) := by decide +kernel
theorem dX5_day_78 : decode cX5_day 78 = .ok (.iconst 3, 1) := by decide +kernel
theorem dX5_day_79 : decode cX5_day 79 = .ok (.istore 7, 2) := by decide +kernel
theorem dX5_day_81 : decode cX5_day 81 = .ok (.iload 7, 2) := by decide +kernel
theorem dX5_day_83 : decode cX5_day 83 = .ok (.ifCond .eq 10, 3) := by decide +kernel
theorem dX5_day_86 : decode cX5_day 86 = .ok (.aload_n 0, 1) := by decide +kernel
theorem dX5_day_87 : decode cX5_day 87 = .ok (.iload 7, 2) := by decide +kernel
theorem dX5_day_89 : decode cX5_day 89 = .ok (.invokevirtual 61, 3) := by decide +kernel
theorem dX5_day_92 : decode cX5_day 92 = .ok (.ireturn, 1) := by decide +kernel
theorem dX5_day_93 : decode cX5_day 93 = .ok (.aload_n 0, 1) := by decide +kernel
theorem dX5_day_94 : decode cX5_day 94 = .ok (.getfield 14, 3) := by decide +kernel
theorem dX5_day_97 : decode cX5_day 97 = .ok (.getfield 80, 3) := by decide +kernel
theorem dX5_day_100 : decode cX5_day 100 = .ok (.ifCond .ne 6, 3) := by decide +kernel
theorem dX5_day_103 : decode cX5_day 103 = .ok (.bipush (-3), 2) := by decide +kernel
theorem dX5_day_105 : decode cX5_day 105 = .ok (.ireturn, 1) := by decide +kernel
theorem dX5_day_106 : decode cX5_day 106 = .ok (.aload_n 0, 1) := by decide +kernel
theorem dX5_day_107 : decode cX5_day 107 = .ok (.aload 6, 2) := by decide +kernel
theorem dX5_day_109 : decode cX5_day 109 = .ok (.iload_n 3, 1) := by decide +kernel
theorem dX5_day_110 : decode cX5_day 110 = .ok (.iload 4, 2) := by decide +kernel
theorem dX5_day_112 : decode cX5_day 112 = .ok (.invokevirtual 123, 3) := by decide +kernel
theorem dX5_day_115 : decode cX5_day 115 = .ok (.istore 8, 2) := by decide +kernel
theorem dX5_day_117 : decode cX5_day 117 = .ok (.iload 8, 2) := by decide +kernel
theorem dX5_day_119 : decode cX5_day 119 = .ok (.ifCond .eq 6, 3) := by decide +kernel
theorem dX5_day_122 : decode cX5_day 122 = .ok (.iload 8, 2) := by decide +kernel
theorem dX5_day_124 : decode cX5_day 124 = .ok (.ireturn, 1) := by decide +kernel
theorem dX5_day_125 : decode cX5_day 125 = .ok (.aload_n 0, 1) := by decide +kernel
theorem dX5_day_126 : decode cX5_day 126 = .ok (.aload 6, 2) := by decide +kernel
theorem dX5_day_128 : decode cX5_day 128 = .ok (.iload_n 3, 1) := by decide +kernel
theorem dX5_day_129 : decode cX5_day 129 = .ok (.iload 4, 2) := by decide +kernel
theorem dX5_day_131 : decode cX5_day 131 = .ok (.invokevirtual 126, 3) := by decide +kernel
theorem dX5_day_134 : decode cX5_day 134 = .ok (.istore 9, 2) := by decide +kernel
theorem dX5_day_136 : decode cX5_day 136 = .ok (.iload 5, 2) := by decide +kernel
theorem dX5_day_138 : decode cX5_day 138 = .ok (.iconst 1, 1) := by decide +kernel
theorem dX5_day_139 : decode cX5_day 139 = .ok (.if_icmp .ne 6, 3) := by decide +kernel
theorem dX5_day_142 : decode cX5_day 142 = .ok (.iload 9, 2) := by decide +kernel
theorem dX5_day_144 : decode cX5_day 144 = .ok (.ireturn, 1) := by decide +kernel
theorem dX5_day_145 : decode cX5_day 145 = .ok (.iload 9, 2) := by decide +kernel
theorem dX5_day_147 : decode cX5_day 147 = .ok (.bipush (-9), 2) := by decide +kernel
theorem dX5_day_149 : decode cX5_day 149 = .ok (.if_icmp .ne 12, 3) := by decide +kernel
theorem dX5_day_152 : decode cX5_day 152 = .ok (.aload_n 0, 1) := by decide +kernel
theorem dX5_day_153 : decode cX5_day 153 = .ok (.iload 5, 2) := by decide +kernel
theorem dX5_day_155 : decode cX5_day 155 = .ok (.invokevirtual 129, 3) := by decide +kernel
theorem dX5_day_158 : decode cX5_day 158 = .ok (.goto 8, 3) := by decide +kernel
theorem dX5_day_161 : decode cX5_day 161 = .ok (.bipush (-100), 2) := by decide +kernel
theorem dX5_day_163 : decode cX5_day 163 = .ok (.iload 9, 2) := by decide +kernel
theorem dX5_day_165 : decode cX5_day 165 = .ok (.isub, 1) := by decide +kernel
theorem dX5_day_166 : decode cX5_day 166 = .ok (.ireturn, 1) := by decide +kernel
theorem dX5_isOfDay_0 : decode cX5_isOfDay 0 = .ok (.iload_n 0, 1) := by decide +kernel
theorem dX5_isOfDay_1 : decode cX5_isOfDay 1 = .ok (.ifCond .lt 8, 3) := by decide +kernel
theorem dX5_isOfDay_4 : decode cX5_isOfDay 4 = .ok (.iload_n 0, 1) := by decide +kernel
theorem dX5_isOfDay_5 : decode cX5_isOfDay 5 = .ok (.iconst 4, 1) := by decide +kernel
theorem dX5_isOfDay_6 : decode cX5_isOfDay 6 = .ok (.if_icmp .le 15, 3) := by decide +kernel
theorem dX5_isOfDay_9 : decode cX5_isOfDay 9 = .ok (.iload_n 0, 1) := by decide +kernel
theorem dX5_isOfDay_10 : decode cX5_isOfDay 10 = .ok (.bipush 10, 2) := by decide +kernel
theorem dX5_isOfDay_12 : decode cX5_isOfDay 12 = .ok (.if_icmp .lt 13, 3) := by decide +kernel
theorem dX5_isOfDay_15 : decode cX5_isOfDay 15 = .ok (.iload_n 0, 1) := by decide +kernel
theorem dX5_isOfDay_16 : decode cX5_isOfDay 16 = .ok (.bipush 18, 2) := by decide +kernel
theorem dX5_isOfDay_18 : decode cX5_isOfDay 18 = .ok (.if_icmp .ge 7, 3) := by decide +kernel
theorem dX5_isOfDay_21 : decode cX5_isOfDay 21 = .ok (.iconst 1, 1) := by decide +kernel
theorem dX5_isOfDay_22 : decode cX5_isOfDay 22 = .ok (.goto 4, 3) := by decide +kernel
theorem dX5_isOfDay_25 : decode cX5_isOfDay 25 = .ok (.iconst 0, 1) := by decide +kernel
theorem dX5_isOfDay_26 : decode cX5_isOfDay 26 = .ok (.ireturn, 1) := by decide +kernel
theorem dX5_refusalOfPairs_0 : decode cX5_refusalOfPairs 0 = .ok (.iconst 0, 1) := by decide +kernel
theorem dX5_refusalOfPairs_1 : decode cX5_refusalOfPairs 1 = .ok (.istore 4, 2) := by decide +kernel
theorem dX5_refusalOfPairs_3 : decode cX5_refusalOfPairs 3 = .ok (.iload 4, 2) := by decide +kernel
theorem dX5_refusalOfPairs_5 : decode cX5_refusalOfPairs 5 = .ok (.iload_n 3, 1) := by decide +kernel
theorem dX5_refusalOfPairs_6 : decode cX5_refusalOfPairs 6 = .ok (.if_icmp .ge 45, 3) := by decide +kernel
theorem dX5_refusalOfPairs_9 : decode cX5_refusalOfPairs 9 = .ok (.aload_n 0, 1) := by decide +kernel
theorem dX5_refusalOfPairs_10 : decode cX5_refusalOfPairs 10 = .ok (.aload_n 1, 1) := by decide +kernel
theorem dX5_refusalOfPairs_11 : decode cX5_refusalOfPairs 11 = .ok (.iload_n 2, 1) := by decide +kernel
theorem dX5_refusalOfPairs_12 : decode cX5_refusalOfPairs 12 = .ok (.iconst 2, 1) := by decide +kernel
theorem dX5_refusalOfPairs_13 : decode cX5_refusalOfPairs 13 = .ok (.iload 4, 2) := by decide +kernel
theorem dX5_refusalOfPairs_15 : decode cX5_refusalOfPairs 15 = .ok (.imul, 1) := by decide +kernel
theorem dX5_refusalOfPairs_16 : decode cX5_refusalOfPairs 16 = .ok (.iadd, 1) := by decide +kernel
theorem dX5_refusalOfPairs_17 : decode cX5_refusalOfPairs 17 = .ok (.invokevirtual 132, 3) := by decide +kernel
theorem dX5_refusalOfPairs_20 : decode cX5_refusalOfPairs 20 = .ok (.aload_n 1, 1) := by decide +kernel
theorem dX5_refusalOfPairs_21 : decode cX5_refusalOfPairs 21 = .ok (.iload_n 2, 1) := by decide +kernel
theorem dX5_refusalOfPairs_22 : decode cX5_refusalOfPairs 22 = .ok (.iconst 2, 1) := by decide +kernel
theorem dX5_refusalOfPairs_23 : decode cX5_refusalOfPairs 23 = .ok (.iload 4, 2) := by decide +kernel
theorem dX5_refusalOfPairs_25 : decode cX5_refusalOfPairs 25 = .ok (.imul, 1) := by decide +kernel
theorem dX5_refusalOfPairs_26 : decode cX5_refusalOfPairs 26 = .ok (.iadd, 1) := by decide +kernel
theorem dX5_refusalOfPairs_27 : decode cX5_refusalOfPairs 27 = .ok (.iconst 1, 1) := by decide +kernel
theorem dX5_refusalOfPairs_28 : decode cX5_refusalOfPairs 28 = .ok (.iadd, 1) := by decide +kernel
theorem dX5_refusalOfPairs_29 : decode cX5_refusalOfPairs 29 = .ok (.invokevirtual 132, 3) := by decide +kernel
theorem dX5_refusalOfPairs_32 : decode cX5_refusalOfPairs 32 = .ok (.invokevirtual 135, 3) := by decide +kernel
theorem dX5_refusalOfPairs_35 : decode cX5_refusalOfPairs 35 = .ok (.istore 5, 2) := by decide +kernel
theorem dX5_refusalOfPairs_37 : decode cX5_refusalOfPairs 37 = .ok (.iload 5, 2) := by decide +kernel
theorem dX5_refusalOfPairs_39 : decode cX5_refusalOfPairs 39 = .ok (.ifCond .eq 6, 3) := by decide +kernel
theorem dX5_refusalOfPairs_42 : decode cX5_refusalOfPairs 42 = .ok (.iload 5, 2) := by decide +kernel
theorem dX5_refusalOfPairs_44 : decode cX5_refusalOfPairs 44 = .ok (.ireturn, 1) := by decide +kernel
theorem dX5_refusalOfPairs_45 : decode cX5_refusalOfPairs 45 = .ok (.iinc 4 1, 3) := by decide +kernel
theorem dX5_refusalOfPairs_48 : decode cX5_refusalOfPairs 48 = .ok (.goto (-45), 3) := by decide +kernel
theorem dX5_refusalOfPairs_51 : decode cX5_refusalOfPairs 51 = .ok (.iconst 0, 1) := by decide +kernel
theorem dX5_refusalOfPairs_52 : decode cX5_refusalOfPairs 52 = .ok (.ireturn, 1) := by decide +kernel
theorem dX5_refusalOfPair_0 : decode cX5_refusalOfPair 0 = .ok (.iload_n 2, 1) := by decide +kernel
theorem dX5_refusalOfPair_1 : decode cX5_refusalOfPair 1 = .ok (.bipush 10, 2) := by decide +kernel
theorem dX5_refusalOfPair_3 : decode cX5_refusalOfPair 3 = .ok (.if_icmp .lt 26, 3) := by decide +kernel
theorem dX5_refusalOfPair_6 : decode cX5_refusalOfPair 6 = .ok (.iload_n 2, 1) := by decide +kernel
theorem dX5_refusalOfPair_7 : decode cX5_refusalOfPair 7 = .ok (.bipush 18, 2) := by decide +kernel
theorem dX5_refusalOfPair_9 : decode cX5_refusalOfPair 9 = .ok (.if_icmp .ge 20, 3) := by decide +kernel
theorem dX5_refusalOfPair_12 : decode cX5_refusalOfPair 12 = .ok (.iload_n 1, 1) := by decide +kernel
theorem dX5_refusalOfPair_13 : decode cX5_refusalOfPair 13 = .ok (.ifCond .lt 9, 3) := by decide +kernel
theorem dX5_refusalOfPair_16 : decode cX5_refusalOfPair 16 = .ok (.iload_n 1, 1) := by decide +kernel
theorem dX5_refusalOfPair_17 : decode cX5_refusalOfPair 17 = .ok (.bipush 9, 2) := by decide +kernel
theorem dX5_refusalOfPair_19 : decode cX5_refusalOfPair 19 = .ok (.if_icmp .le 8, 3) := by decide +kernel
theorem dX5_refusalOfPair_22 : decode cX5_refusalOfPair 22 = .ok (.bipush (-2), 2) := by decide +kernel
theorem dX5_refusalOfPair_24 : decode cX5_refusalOfPair 24 = .ok (.goto 4, 3) := by decide +kernel
theorem dX5_refusalOfPair_27 : decode cX5_refusalOfPair 27 = .ok (.iconst 0, 1) := by decide +kernel
theorem dX5_refusalOfPair_28 : decode cX5_refusalOfPair 28 = .ok (.ireturn, 1) := by decide +kernel
theorem dX5_refusalOfPair_29 : decode cX5_refusalOfPair 29 = .ok (.iload_n 2, 1) := by decide +kernel
theorem dX5_refusalOfPair_30 : decode cX5_refusalOfPair 30 = .ok (.ifCond .lt 9, 3) := by decide +kernel
theorem dX5_refusalOfPair_33 : decode cX5_refusalOfPair 33 = .ok (.iload_n 2, 1) := by decide +kernel
theorem dX5_refusalOfPair_34 : decode cX5_refusalOfPair 34 = .ok (.bipush 8, 2) := by decide +kernel
theorem dX5_refusalOfPair_36 : decode cX5_refusalOfPair 36 = .ok (.if_icmp .lt 6, 3) := by decide +kernel
theorem dX5_refusalOfPair_39 : decode cX5_refusalOfPair 39 = .ok (.bipush (-2), 2) := by decide +kernel
theorem dX5_refusalOfPair_41 : decode cX5_refusalOfPair 41 = .ok (.ireturn, 1) := by decide +kernel
theorem dX5_refusalOfPair_42 : decode cX5_refusalOfPair 42 = .ok (.aload_n 0, 1) := by decide +kernel
theorem dX5_refusalOfPair_43 : decode cX5_refusalOfPair 43 = .ok (.getfield 14, 3) := by decide +kernel
theorem dX5_refusalOfPair_46 : decode cX5_refusalOfPair 46 = .ok (.iload_n 1, 1) := by decide +kernel
theorem dX5_refusalOfPair_47 : decode cX5_refusalOfPair 47 = .ok (.invokevirtual 83, 3) := by decide +kernel
theorem dX5_refusalOfPair_50 : decode cX5_refusalOfPair 50 = .ok (.ifCond .eq 7, 3) := by decide +kernel
theorem dX5_refusalOfPair_53 : decode cX5_refusalOfPair 53 = .ok (.iconst 0, 1) := by decide +kernel
theorem dX5_refusalOfPair_54 : decode cX5_refusalOfPair 54 = .ok (.goto 4, 3) := by decide +kernel
theorem dX5_refusalOfPair_57 : decode cX5_refusalOfPair 57 = .ok (.iconst (-1), 1) := by decide +kernel
theorem dX5_refusalOfPair_58 : decode cX5_refusalOfPair 58 = .ok (.ireturn, 1) := by decide +kernel
theorem dX5_firstWrong_0 : decode cX5_firstWrong 0 = .ok (.aload_n 0, 1) := by decide +kernel
theorem dX5_firstWrong_1 : decode cX5_firstWrong 1 = .ok (.getfield 18, 3) := by decide +kernel
theorem dX5_firstWrong_4 : decode cX5_firstWrong 4 = .ok (.aload_n 0, 1) := by decide +kernel
theorem dX5_firstWrong_5 : decode cX5_firstWrong 5 = .ok (.getfield 14, 3) := by decide +kernel
theorem dX5_firstWrong_8 : decode cX5_firstWrong 8 = .ok (.invokevirtual 138, 3) := by decide +kernel
theorem dX5_firstWrong_11 : decode cX5_firstWrong 11 = .ok (.iconst 0, 1) := by decide +kernel
theorem dX5_firstWrong_12 : decode cX5_firstWrong 12 = .ok (.istore 4, 2) := by decide +kernel
theorem dX5_firstWrong_14 : decode cX5_firstWrong 14 = .ok (.iload 4, 2) := by decide +kernel
theorem dX5_firstWrong_16 : decode cX5_firstWrong 16 = .ok (.iload_n 3, 1) := by decide +kernel
theorem dX5_firstWrong_17 : decode cX5_firstWrong 17 = .ok (.if_icmp .ge 41, 3) := by decide +kernel
theorem dX5_firstWrong_20 : decode cX5_firstWrong 20 = .ok (.aload_n 0, 1) := by decide +kernel
theorem dX5_firstWrong_21 : decode cX5_firstWrong 21 = .ok (.aload_n 1, 1) := by decide +kernel
theorem dX5_firstWrong_22 : decode cX5_firstWrong 22 = .ok (.iload_n 2, 1) := by decide +kernel
theorem dX5_firstWrong_23 : decode cX5_firstWrong 23 = .ok (.iconst 2, 1) := by decide +kernel
theorem dX5_firstWrong_24 : decode cX5_firstWrong 24 = .ok (.iload 4, 2) := by decide +kernel
theorem dX5_firstWrong_26 : decode cX5_firstWrong 26 = .ok (.imul, 1) := by decide +kernel
theorem dX5_firstWrong_27 : decode cX5_firstWrong 27 = .ok (.iadd, 1) := by decide +kernel
theorem dX5_firstWrong_28 : decode cX5_firstWrong 28 = .ok (.invokevirtual 132, 3) := by decide +kernel
theorem dX5_firstWrong_31 : decode cX5_firstWrong 31 = .ok (.aload_n 1, 1) := by decide +kernel
theorem dX5_firstWrong_32 : decode cX5_firstWrong 32 = .ok (.iload_n 2, 1) := by decide +kernel
theorem dX5_firstWrong_33 : decode cX5_firstWrong 33 = .ok (.iconst 2, 1) := by decide +kernel
theorem dX5_firstWrong_34 : decode cX5_firstWrong 34 = .ok (.iload 4, 2) := by decide +kernel
theorem dX5_firstWrong_36 : decode cX5_firstWrong 36 = .ok (.imul, 1) := by decide +kernel
theorem dX5_firstWrong_37 : decode cX5_firstWrong 37 = .ok (.iadd, 1) := by decide +kernel
theorem dX5_firstWrong_38 : decode cX5_firstWrong 38 = .ok (.iconst 1, 1) := by decide +kernel
theorem dX5_firstWrong_39 : decode cX5_firstWrong 39 = .ok (.iadd, 1) := by decide +kernel
theorem dX5_firstWrong_40 : decode cX5_firstWrong 40 = .ok (.invokevirtual 132, 3) := by decide +kernel
theorem dX5_firstWrong_43 : decode cX5_firstWrong 43 = .ok (.invokevirtual 142, 3) := by decide +kernel
theorem dX5_firstWrong_46 : decode cX5_firstWrong 46 = .ok (.ifCond .ne 6, 3) := by decide +kernel
theorem dX5_firstWrong_49 : decode cX5_firstWrong 49 = .ok (.iload 4, 2) := by decide +kernel
theorem dX5_firstWrong_51 : decode cX5_firstWrong 51 = .ok (.ireturn, 1) := by decide +kernel
theorem dX5_firstWrong_52 : decode cX5_firstWrong 52 = .ok (.iinc 4 1, 3) := by decide +kernel
theorem dX5_firstWrong_55 : decode cX5_firstWrong 55 = .ok (.goto (-41), 3) := by decide +kernel
theorem dX5_firstWrong_58 : decode cX5_firstWrong 58 = .ok (.bipush (-9), 2) := by decide +kernel
theorem dX5_firstWrong_60 : decode cX5_firstWrong 60 = .ok (.ireturn, 1) := by decide +kernel
theorem dX5_tried_0 : decode cX5_tried 0 = .ok (.iload_n 2, 1) := by decide +kernel
theorem dX5_tried_1 : decode cX5_tried 1 = .ok (.bipush 10, 2) := by decide +kernel
theorem dX5_tried_3 : decode cX5_tried 3 = .ok (.if_icmp .lt 33, 3) := by decide +kernel
theorem dX5_tried_6 : decode cX5_tried 6 = .ok (.iload_n 2, 1) := by decide +kernel
theorem dX5_tried_7 : decode cX5_tried 7 = .ok (.bipush 10, 2) := by decide +kernel
theorem dX5_tried_9 : decode cX5_tried 9 = .ok (.isub, 1) := by decide +kernel
theorem dX5_tried_10 : decode cX5_tried 10 = .ok (.istore_n 3, 1) := by decide +kernel
theorem dX5_tried_11 : decode cX5_tried 11 = .ok (.aload_n 0, 1) := by decide +kernel
theorem dX5_tried_12 : decode cX5_tried 12 = .ok (.getfield 18, 3) := by decide +kernel
theorem dX5_tried_15 : decode cX5_tried 15 = .ok (.iload_n 3, 1) := by decide +kernel
theorem dX5_tried_16 : decode cX5_tried 16 = .ok (.invokevirtual 83, 3) := by decide +kernel
theorem dX5_tried_19 : decode cX5_tried 19 = .ok (.ifCond .ne 5, 3) := by decide +kernel
theorem dX5_tried_22 : decode cX5_tried 22 = .ok (.iconst 0, 1) := by decide +kernel
theorem dX5_tried_23 : decode cX5_tried 23 = .ok (.ireturn, 1) := by decide +kernel
theorem dX5_tried_24 : decode cX5_tried 24 = .ok (.aload_n 0, 1) := by decide +kernel
theorem dX5_tried_25 : decode cX5_tried 25 = .ok (.getfield 18, 3) := by decide +kernel
theorem dX5_tried_28 : decode cX5_tried 28 = .ok (.getfield 90, 3) := by decide +kernel
theorem dX5_tried_31 : decode cX5_tried 31 = .ok (.iload_n 3, 1) := by decide +kernel
theorem dX5_tried_32 : decode cX5_tried 32 = .ok (.iload_n 1, 1) := by decide +kernel
theorem dX5_tried_33 : decode cX5_tried 33 = .ok (.iastore, 1) := by decide +kernel
theorem dX5_tried_34 : decode cX5_tried 34 = .ok (.iconst 1, 1) := by decide +kernel
theorem dX5_tried_35 : decode cX5_tried 35 = .ok (.ireturn, 1) := by decide +kernel
theorem dX5_tried_36 : decode cX5_tried 36 = .ok (.aload_n 0, 1) := by decide +kernel
theorem dX5_tried_37 : decode cX5_tried 37 = .ok (.getfield 18, 3) := by decide +kernel
theorem dX5_tried_40 : decode cX5_tried 40 = .ok (.iload_n 1, 1) := by decide +kernel
theorem dX5_tried_41 : decode cX5_tried 41 = .ok (.invokevirtual 83, 3) := by decide +kernel
theorem dX5_tried_44 : decode cX5_tried 44 = .ok (.ifCond .eq 30, 3) := by decide +kernel
theorem dX5_tried_47 : decode cX5_tried 47 = .ok (.aload_n 0, 1) := by decide +kernel
theorem dX5_tried_48 : decode cX5_tried 48 = .ok (.getfield 18, 3) := by decide +kernel
theorem dX5_tried_51 : decode cX5_tried 51 = .ok (.iload_n 2, 1) := by decide +kernel
theorem dX5_tried_52 : decode cX5_tried 52 = .ok (.invokevirtual 83, 3) := by decide +kernel
theorem dX5_tried_55 : decode cX5_tried 55 = .ok (.ifCond .eq 19, 3) := by decide +kernel
theorem dX5_tried_58 : decode cX5_tried 58 = .ok (.iload_n 1, 1) := by decide +kernel
theorem dX5_tried_59 : decode cX5_tried 59 = .ok (.iload_n 2, 1) := by decide +kernel
theorem dX5_tried_60 : decode cX5_tried 60 = .ok (.if_icmp .eq 14, 3) := by decide +kernel
theorem dX5_tried_63 : decode cX5_tried 63 = .ok (.aload_n 0, 1) := by decide +kernel
theorem dX5_tried_64 : decode cX5_tried 64 = .ok (.getfield 18, 3) := by decide +kernel
theorem dX5_tried_67 : decode cX5_tried 67 = .ok (.iload_n 1, 1) := by decide +kernel
theorem dX5_tried_68 : decode cX5_tried 68 = .ok (.invokevirtual 113, 3) := by decide +kernel
theorem dX5_tried_71 : decode cX5_tried 71 = .ok (.ifCond .ne 5, 3) := by decide +kernel
theorem dX5_tried_74 : decode cX5_tried 74 = .ok (.iconst 0, 1) := by decide +kernel
theorem dX5_tried_75 : decode cX5_tried 75 = .ok (.ireturn, 1) := by decide +kernel
theorem dX5_tried_76 : decode cX5_tried 76 = .ok (.aload_n 0, 1) := by decide +kernel
theorem dX5_tried_77 : decode cX5_tried 77 = .ok (.getfield 18, 3) := by decide +kernel
theorem dX5_tried_80 : decode cX5_tried 80 = .ok (.iload_n 1, 1) := by decide +kernel
theorem dX5_tried_81 : decode cX5_tried 81 = .ok (.iload_n 2, 1) := by decide +kernel
theorem dX5_tried_82 : decode cX5_tried 82 = .ok (.invokevirtual 116, 3) := by decide +kernel
theorem dX5_tried_85 : decode cX5_tried 85 = .ok (.pop, 1) := by decide +kernel
theorem dX5_tried_86 : decode cX5_tried 86 = .ok (.iconst 1, 1) := by decide +kernel
theorem dX5_tried_87 : decode cX5_tried 87 = .ok (.ireturn, 1) := by decide +kernel
theorem dX5_ofTrial_0 : decode cX5_ofTrial 0 = .ok (.iload_n 1, 1) := by decide +kernel
theorem dX5_ofTrial_1 : decode cX5_ofTrial 1 = .ok (.tableswitch 67 0 4 #[35, 67, 43, 51, 59], 35) := by decide +kernel
theorem dX5_ofTrial_36 : decode cX5_ofTrial 36 = .ok (.aload_n 0, 1) := by decide +kernel
theorem dX5_ofTrial_37 : decode cX5_ofTrial 37 = .ok (.getfield 18, 3) := by decide +kernel
theorem dX5_ofTrial_40 : decode cX5_ofTrial 40 = .ok (.invokevirtual 145, 3) := by decide +kernel
theorem dX5_ofTrial_43 : decode cX5_ofTrial 43 = .ok (.ireturn, 1) := by decide +kernel
theorem dX5_ofTrial_44 : decode cX5_ofTrial 44 = .ok (.aload_n 0, 1) := by decide +kernel
theorem dX5_ofTrial_45 : decode cX5_ofTrial 45 = .ok (.getfield 18, 3) := by decide +kernel
theorem dX5_ofTrial_48 : decode cX5_ofTrial 48 = .ok (.invokevirtual 149, 3) := by decide +kernel
theorem dX5_ofTrial_51 : decode cX5_ofTrial 51 = .ok (.ireturn, 1) := by decide +kernel
theorem dX5_ofTrial_52 : decode cX5_ofTrial 52 = .ok (.aload_n 0, 1) := by decide +kernel
theorem dX5_ofTrial_53 : decode cX5_ofTrial 53 = .ok (.getfield 18, 3) := by decide +kernel
theorem dX5_ofTrial_56 : decode cX5_ofTrial 56 = .ok (.invokevirtual 152, 3) := by decide +kernel
theorem dX5_ofTrial_59 : decode cX5_ofTrial 59 = .ok (.ireturn, 1) := by decide +kernel
theorem dX5_ofTrial_60 : decode cX5_ofTrial 60 = .ok (.aload_n 0, 1) := by decide +kernel
theorem dX5_ofTrial_61 : decode cX5_ofTrial 61 = .ok (.getfield 18, 3) := by decide +kernel
theorem dX5_ofTrial_64 : decode cX5_ofTrial 64 = .ok (.invokevirtual 155, 3) := by decide +kernel
theorem dX5_ofTrial_67 : decode cX5_ofTrial 67 = .ok (.ireturn, 1) := by decide +kernel
theorem dX5_ofTrial_68 : decode cX5_ofTrial 68 = .ok (.aload_n 0, 1) := by decide +kernel
theorem dX5_ofTrial_69 : decode cX5_ofTrial 69 = .ok (.getfield 18, 3) := by decide +kernel
theorem dX5_ofTrial_72 : decode cX5_ofTrial 72 = .ok (.iload_n 1, 1) := by decide +kernel
theorem dX5_ofTrial_73 : decode cX5_ofTrial 73 = .ok (.bipush 10, 2) := by decide +kernel
theorem dX5_ofTrial_75 : decode cX5_ofTrial 75 = .ok (.isub, 1) := by decide +kernel
theorem dX5_ofTrial_76 : decode cX5_ofTrial 76 = .ok (.invokevirtual 83, 3) := by decide +kernel
theorem dX5_ofTrial_79 : decode cX5_ofTrial 79 = .ok (.ifCond .eq 18, 3) := by decide +kernel
theorem dX5_ofTrial_82 : decode cX5_ofTrial 82 = .ok (.aload_n 0, 1) := by decide +kernel
theorem dX5_ofTrial_83 : decode cX5_ofTrial 83 = .ok (.getfield 18, 3) := by decide +kernel
theorem dX5_ofTrial_86 : decode cX5_ofTrial 86 = .ok (.getfield 96, 3) := by decide +kernel
theorem dX5_ofTrial_89 : decode cX5_ofTrial 89 = .ok (.iload_n 1, 1) := by decide +kernel
theorem dX5_ofTrial_90 : decode cX5_ofTrial 90 = .ok (.bipush 10, 2) := by decide +kernel
theorem dX5_ofTrial_92 : decode cX5_ofTrial 92 = .ok (.isub, 1) := by decide +kernel
theorem dX5_ofTrial_93 : decode cX5_ofTrial 93 = .ok (.iaload, 1) := by decide +kernel
theorem dX5_ofTrial_94 : decode cX5_ofTrial 94 = .ok (.goto 5, 3) := by decide +kernel
theorem dX5_ofTrial_97 : decode cX5_ofTrial 97 = .ok (.bipush (-9), 2) := by decide +kernel
theorem dX5_ofTrial_99 : decode cX5_ofTrial 99 = .ok (.ireturn, 1) := by decide +kernel
theorem dX5_far_0 : decode cX5_far 0 = .ok (.aload_n 0, 1) := by decide +kernel
theorem dX5_far_1 : decode cX5_far 1 = .ok (.getfield 14, 3) := by decide +kernel
theorem dX5_far_4 : decode cX5_far 4 = .ok (.iload_n 1, 1) := by decide +kernel
theorem dX5_far_5 : decode cX5_far 5 = .ok (.invokevirtual 83, 3) := by decide +kernel
theorem dX5_far_8 : decode cX5_far 8 = .ok (.ifCond .eq 28, 3) := by decide +kernel
theorem dX5_far_11 : decode cX5_far 11 = .ok (.aload_n 0, 1) := by decide +kernel
theorem dX5_far_12 : decode cX5_far 12 = .ok (.getfield 14, 3) := by decide +kernel
theorem dX5_far_15 : decode cX5_far 15 = .ok (.iload_n 2, 1) := by decide +kernel
theorem dX5_far_16 : decode cX5_far 16 = .ok (.invokevirtual 83, 3) := by decide +kernel
theorem dX5_far_19 : decode cX5_far 19 = .ok (.ifCond .eq 17, 3) := by decide +kernel
theorem dX5_far_22 : decode cX5_far 22 = .ok (.aload_n 0, 1) := by decide +kernel
theorem dX5_far_23 : decode cX5_far 23 = .ok (.getfield 14, 3) := by decide +kernel
theorem dX5_far_26 : decode cX5_far 26 = .ok (.getfield 158, 3) := by decide +kernel
theorem dX5_far_29 : decode cX5_far 29 = .ok (.iload_n 1, 1) := by decide +kernel
theorem dX5_far_30 : decode cX5_far 30 = .ok (.aaload, 1) := by decide +kernel
theorem dX5_far_31 : decode cX5_far 31 = .ok (.iload_n 2, 1) := by decide +kernel
theorem dX5_far_32 : decode cX5_far 32 = .ok (.iaload, 1) := by decide +kernel
theorem dX5_far_33 : decode cX5_far 33 = .ok (.goto 4, 3) := by decide +kernel
theorem dX5_far_36 : decode cX5_far 36 = .ok (.iconst (-1), 1) := by decide +kernel
theorem dX5_far_37 : decode cX5_far 37 = .ok (.ireturn, 1) := by decide +kernel
theorem dX5_way_0 : decode cX5_way 0 = .ok (.aload_n 0, 1) := by decide +kernel
theorem dX5_way_1 : decode cX5_way 1 = .ok (.getfield 14, 3) := by decide +kernel
theorem dX5_way_4 : decode cX5_way 4 = .ok (.iload_n 1, 1) := by decide +kernel
theorem dX5_way_5 : decode cX5_way 5 = .ok (.invokevirtual 83, 3) := by decide +kernel
theorem dX5_way_8 : decode cX5_way 8 = .ok (.ifCond .eq 14, 3) := by decide +kernel
theorem dX5_way_11 : decode cX5_way 11 = .ok (.aload_n 0, 1) := by decide +kernel
theorem dX5_way_12 : decode cX5_way 12 = .ok (.getfield 14, 3) := by decide +kernel
theorem dX5_way_15 : decode cX5_way 15 = .ok (.iload_n 2, 1) := by decide +kernel
theorem dX5_way_16 : decode cX5_way 16 = .ok (.invokevirtual 83, 3) := by decide +kernel
theorem dX5_way_19 : decode cX5_way 19 = .ok (.ifCond .ne 5, 3) := by decide +kernel
theorem dX5_way_22 : decode cX5_way 22 = .ok (.iconst (-1), 1) := by decide +kernel
theorem dX5_way_23 : decode cX5_way 23 = .ok (.ireturn, 1) := by decide +kernel
theorem dX5_way_24 : decode cX5_way 24 = .ok (.iload_n 3, 1) := by decide +kernel
theorem dX5_way_25 : decode cX5_way 25 = .ok (.ifCond .lt 9, 3) := by decide +kernel
theorem dX5_way_28 : decode cX5_way 28 = .ok (.iload_n 3, 1) := by decide +kernel
theorem dX5_way_29 : decode cX5_way 29 = .ok (.bipush 8, 2) := by decide +kernel
theorem dX5_way_31 : decode cX5_way 31 = .ok (.if_icmp .lt 6, 3) := by decide +kernel
theorem dX5_way_34 : decode cX5_way 34 = .ok (.bipush (-2), 2) := by decide +kernel
theorem dX5_way_36 : decode cX5_way 36 = .ok (.ireturn, 1) := by decide +kernel
theorem dX5_way_37 : decode cX5_way 37 = .ok (.iconst 0, 1) := by decide +kernel
theorem dX5_way_38 : decode cX5_way 38 = .ok (.istore 4, 2) := by decide +kernel
theorem dX5_way_40 : decode cX5_way 40 = .ok (.iload 4, 2) := by decide +kernel
theorem dX5_way_42 : decode cX5_way 42 = .ok (.aload_n 0, 1) := by decide +kernel
theorem dX5_way_43 : decode cX5_way 43 = .ok (.getfield 14, 3) := by decide +kernel
theorem dX5_way_46 : decode cX5_way 46 = .ok (.getfield 80, 3) := by decide +kernel
theorem dX5_way_49 : decode cX5_way 49 = .ok (.if_icmp .ge 42, 3) := by decide +kernel
theorem dX5_way_52 : decode cX5_way 52 = .ok (.aload_n 0, 1) := by decide +kernel
theorem dX5_way_53 : decode cX5_way 53 = .ok (.getfield 14, 3) := by decide +kernel
theorem dX5_way_56 : decode cX5_way 56 = .ok (.getfield 158, 3) := by decide +kernel
theorem dX5_way_59 : decode cX5_way 59 = .ok (.iload_n 1, 1) := by decide +kernel
theorem dX5_way_60 : decode cX5_way 60 = .ok (.aaload, 1) := by decide +kernel
theorem dX5_way_61 : decode cX5_way 61 = .ok (.iload 4, 2) := by decide +kernel
theorem dX5_way_63 : decode cX5_way 63 = .ok (.iaload, 1) := by decide +kernel
theorem dX5_way_64 : decode cX5_way 64 = .ok (.iload_n 3, 1) := by decide +kernel
theorem dX5_way_65 : decode cX5_way 65 = .ok (.if_icmp .ne 20, 3) := by decide +kernel
theorem dX5_way_68 : decode cX5_way 68 = .ok (.aload_n 0, 1) := by decide +kernel
theorem dX5_way_69 : decode cX5_way 69 = .ok (.getfield 14, 3) := by decide +kernel
theorem dX5_way_72 : decode cX5_way 72 = .ok (.iload_n 1, 1) := by decide +kernel
theorem dX5_way_73 : decode cX5_way 73 = .ok (.iload_n 2, 1) := by decide +kernel
theorem dX5_way_74 : decode cX5_way 74 = .ok (.iload 4, 2) := by decide +kernel
theorem dX5_way_76 : decode cX5_way 76 = .ok (.invokevirtual 162, 3) := by decide +kernel
theorem dX5_way_79 : decode cX5_way 79 = .ok (.ifCond .eq 6, 3) := by decide +kernel
theorem dX5_way_82 : decode cX5_way 82 = .ok (.iload 4, 2) := by decide +kernel
theorem dX5_way_84 : decode cX5_way 84 = .ok (.ireturn, 1) := by decide +kernel
theorem dX5_way_85 : decode cX5_way 85 = .ok (.iinc 4 1, 3) := by decide +kernel
theorem dX5_way_88 : decode cX5_way 88 = .ok (.goto (-48), 3) := by decide +kernel
theorem dX5_way_91 : decode cX5_way 91 = .ok (.bipush (-9), 2) := by decide +kernel
theorem dX5_way_93 : decode cX5_way 93 = .ok (.ireturn, 1) := by decide +kernel
theorem dX5_middle_0 : decode cX5_middle 0 = .ok (.iload_n 1, 1) := by decide +kernel
theorem dX5_middle_1 : decode cX5_middle 1 = .ok (.ifCond .lt 8, 3) := by decide +kernel
theorem dX5_middle_4 : decode cX5_middle 4 = .ok (.iload_n 1, 1) := by decide +kernel
theorem dX5_middle_5 : decode cX5_middle 5 = .ok (.iconst 1, 1) := by decide +kernel
theorem dX5_middle_6 : decode cX5_middle 6 = .ok (.if_icmp .le 6, 3) := by decide +kernel
theorem dX5_middle_9 : decode cX5_middle 9 = .ok (.bipush (-2), 2) := by decide +kernel
theorem dX5_middle_11 : decode cX5_middle 11 = .ok (.ireturn, 1) := by decide +kernel
theorem dX5_middle_12 : decode cX5_middle 12 = .ok (.aload_n 0, 1) := by decide +kernel
theorem dX5_middle_13 : decode cX5_middle 13 = .ok (.getfield 14, 3) := by decide +kernel
theorem dX5_middle_16 : decode cX5_middle 16 = .ok (.getfield 80, 3) := by decide +kernel
theorem dX5_middle_19 : decode cX5_middle 19 = .ok (.ifCond .ne 6, 3) := by decide +kernel
theorem dX5_middle_22 : decode cX5_middle 22 = .ok (.bipush (-3), 2) := by decide +kernel
theorem dX5_middle_24 : decode cX5_middle 24 = .ok (.ireturn, 1) := by decide +kernel
theorem dX5_middle_25 : decode cX5_middle 25 = .ok (.iload_n 1, 1) := by decide +kernel
theorem dX5_middle_26 : decode cX5_middle 26 = .ok (.ifCond .ne 13, 3) := by decide +kernel
theorem dX5_middle_29 : decode cX5_middle 29 = .ok (.aload_n 0, 1) := by decide +kernel
theorem dX5_middle_30 : decode cX5_middle 30 = .ok (.getfield 14, 3) := by decide +kernel
theorem dX5_middle_33 : decode cX5_middle 33 = .ok (.invokevirtual 166, 3) := by decide +kernel
theorem dX5_middle_36 : decode cX5_middle 36 = .ok (.goto 10, 3) := by decide +kernel
theorem dX5_middle_39 : decode cX5_middle 39 = .ok (.aload_n 0, 1) := by decide +kernel
theorem dX5_middle_40 : decode cX5_middle 40 = .ok (.getfield 14, 3) := by decide +kernel
theorem dX5_middle_43 : decode cX5_middle 43 = .ok (.invokevirtual 145, 3) := by decide +kernel
theorem dX5_middle_46 : decode cX5_middle 46 = .ok (.ireturn, 1) := by decide +kernel
theorem dX5_number_0 : decode cX5_number 0 = .ok (.aload_n 0, 1) := by decide +kernel
theorem dX5_number_1 : decode cX5_number 1 = .ok (.getfield 14, 3) := by decide +kernel
theorem dX5_number_4 : decode cX5_number 4 = .ok (.getfield 80, 3) := by decide +kernel
theorem dX5_number_7 : decode cX5_number 7 = .ok (.ifCond .ne 8, 3) := by decide +kernel
theorem dX5_number_10 : decode cX5_number 10 = .ok (.bipush (-3), 2) := by decide +kernel
theorem dX5_number_12 : decode cX5_number 12 = .ok (.goto 10, 3) := by decide +kernel
theorem dX5_number_15 : decode cX5_number 15 = .ok (.aload_n 0, 1) := by decide +kernel
theorem dX5_number_16 : decode cX5_number 16 = .ok (.getfield 14, 3) := by decide +kernel
theorem dX5_number_19 : decode cX5_number 19 = .ok (.invokevirtual 149, 3) := by decide +kernel
theorem dX5_number_22 : decode cX5_number 22 = .ok (.ireturn, 1) := by decide +kernel
theorem dX5_alike_0 : decode cX5_alike 0 = .ok (.aload_n 0, 1) := by decide +kernel
theorem dX5_alike_1 : decode cX5_alike 1 = .ok (.getfield 14, 3) := by decide +kernel
theorem dX5_alike_4 : decode cX5_alike 4 = .ok (.getfield 80, 3) := by decide +kernel
theorem dX5_alike_7 : decode cX5_alike 7 = .ok (.ifCond .ne 8, 3) := by decide +kernel
theorem dX5_alike_10 : decode cX5_alike 10 = .ok (.bipush (-3), 2) := by decide +kernel
theorem dX5_alike_12 : decode cX5_alike 12 = .ok (.goto 14, 3) := by decide +kernel
theorem dX5_alike_15 : decode cX5_alike 15 = .ok (.aload_n 0, 1) := by decide +kernel
theorem dX5_alike_16 : decode cX5_alike 16 = .ok (.getfield 24, 3) := by decide +kernel
theorem dX5_alike_19 : decode cX5_alike 19 = .ok (.aload_n 0, 1) := by decide +kernel
theorem dX5_alike_20 : decode cX5_alike 20 = .ok (.getfield 14, 3) := by decide +kernel
theorem dX5_alike_23 : decode cX5_alike 23 = .ok (.invokevirtual 169, 3) := by decide +kernel
theorem dX5_alike_26 : decode cX5_alike 26 = .ok (.ireturn, 1) := by decide +kernel
theorem dX5_pairs_0 : decode cX5_pairs 0 = .ok (.aload_n 0, 1) := by decide +kernel
theorem dX5_pairs_1 : decode cX5_pairs 1 = .ok (.getfield 14, 3) := by decide +kernel
theorem dX5_pairs_4 : decode cX5_pairs 4 = .ok (.getfield 80, 3) := by decide +kernel
theorem dX5_pairs_7 : decode cX5_pairs 7 = .ok (.ifCond .ne 8, 3) := by decide +kernel
theorem dX5_pairs_10 : decode cX5_pairs 10 = .ok (.bipush (-3), 2) := by decide +kernel
theorem dX5_pairs_12 : decode cX5_pairs 12 = .ok (.goto 10, 3) := by decide +kernel
theorem dX5_pairs_15 : decode cX5_pairs 15 = .ok (.aload_n 0, 1) := by decide +kernel
theorem dX5_pairs_16 : decode cX5_pairs 16 = .ok (.getfield 14, 3) := by decide +kernel
theorem dX5_pairs_19 : decode cX5_pairs 19 = .ok (.invokevirtual 173, 3) := by decide +kernel
theorem dX5_pairs_22 : decode cX5_pairs 22 = .ok (.ireturn, 1) := by decide +kernel
theorem dX5_loners_0 : decode cX5_loners 0 = .ok (.iload_n 1, 1) := by decide +kernel
theorem dX5_loners_1 : decode cX5_loners 1 = .ok (.ifCond .lt 8, 3) := by decide +kernel
theorem dX5_loners_4 : decode cX5_loners 4 = .ok (.iload_n 1, 1) := by decide +kernel
theorem dX5_loners_5 : decode cX5_loners 5 = .ok (.iconst 1, 1) := by decide +kernel
theorem dX5_loners_6 : decode cX5_loners 6 = .ok (.if_icmp .le 6, 3) := by decide +kernel
theorem dX5_loners_9 : decode cX5_loners 9 = .ok (.bipush (-2), 2) := by decide +kernel
theorem dX5_loners_11 : decode cX5_loners 11 = .ok (.ireturn, 1) := by decide +kernel
theorem dX5_loners_12 : decode cX5_loners 12 = .ok (.aload_n 0, 1) := by decide +kernel
theorem dX5_loners_13 : decode cX5_loners 13 = .ok (.getfield 14, 3) := by decide +kernel
theorem dX5_loners_16 : decode cX5_loners 16 = .ok (.getfield 80, 3) := by decide +kernel
theorem dX5_loners_19 : decode cX5_loners 19 = .ok (.ifCond .ne 6, 3) := by decide +kernel
theorem dX5_loners_22 : decode cX5_loners 22 = .ok (.bipush (-3), 2) := by decide +kernel
theorem dX5_loners_24 : decode cX5_loners 24 = .ok (.ireturn, 1) := by decide +kernel
theorem dX5_loners_25 : decode cX5_loners 25 = .ok (.aload_n 0, 1) := by decide +kernel
theorem dX5_loners_26 : decode cX5_loners 26 = .ok (.getfield 14, 3) := by decide +kernel
theorem dX5_loners_29 : decode cX5_loners 29 = .ok (.invokevirtual 176, 3) := by decide +kernel
theorem dX5_loners_32 : decode cX5_loners 32 = .ok (.istore_n 2, 1) := by decide +kernel
theorem dX5_loners_33 : decode cX5_loners 33 = .ok (.iload_n 2, 1) := by decide +kernel
theorem dX5_loners_34 : decode cX5_loners 34 = .ok (.sipush 256, 3) := by decide +kernel
theorem dX5_loners_37 : decode cX5_loners 37 = .ok (.iadd, 1) := by decide +kernel
theorem dX5_loners_38 : decode cX5_loners 38 = .ok (.iconst 1, 1) := by decide +kernel
theorem dX5_loners_39 : decode cX5_loners 39 = .ok (.isub, 1) := by decide +kernel
theorem dX5_loners_40 : decode cX5_loners 40 = .ok (.sipush 256, 3) := by decide +kernel
theorem dX5_loners_43 : decode cX5_loners 43 = .ok (.idiv, 1) := by decide +kernel
theorem dX5_loners_44 : decode cX5_loners 44 = .ok (.istore_n 3, 1) := by decide +kernel
theorem dX5_loners_45 : decode cX5_loners 45 = .ok (.iload_n 1, 1) := by decide +kernel
theorem dX5_loners_46 : decode cX5_loners 46 = .ok (.ifCond .ne 7, 3) := by decide +kernel
theorem dX5_loners_49 : decode cX5_loners 49 = .ok (.iload_n 3, 1) := by decide +kernel
theorem dX5_loners_50 : decode cX5_loners 50 = .ok (.goto 10, 3) := by decide +kernel
theorem dX5_loners_53 : decode cX5_loners 53 = .ok (.iload_n 3, 1) := by decide +kernel
theorem dX5_loners_54 : decode cX5_loners 54 = .ok (.sipush 256, 3) := by decide +kernel
theorem dX5_loners_57 : decode cX5_loners 57 = .ok (.imul, 1) := by decide +kernel
theorem dX5_loners_58 : decode cX5_loners 58 = .ok (.iload_n 2, 1) := by decide +kernel
theorem dX5_loners_59 : decode cX5_loners 59 = .ok (.isub, 1) := by decide +kernel
theorem dX5_loners_60 : decode cX5_loners 60 = .ok (.ireturn, 1) := by decide +kernel
theorem dX5_part_0 : decode cX5_part 0 = .ok (.aload_n 0, 1) := by decide +kernel
theorem dX5_part_1 : decode cX5_part 1 = .ok (.getfield 14, 3) := by decide +kernel
theorem dX5_part_4 : decode cX5_part 4 = .ok (.iload_n 1, 1) := by decide +kernel
theorem dX5_part_5 : decode cX5_part 5 = .ok (.invokevirtual 83, 3) := by decide +kernel
theorem dX5_part_8 : decode cX5_part 8 = .ok (.ifCond .eq 19, 3) := by decide +kernel
theorem dX5_part_11 : decode cX5_part 11 = .ok (.aload_n 0, 1) := by decide +kernel
theorem dX5_part_12 : decode cX5_part 12 = .ok (.getfield 14, 3) := by decide +kernel
theorem dX5_part_15 : decode cX5_part 15 = .ok (.iload_n 2, 1) := by decide +kernel
theorem dX5_part_16 : decode cX5_part 16 = .ok (.invokevirtual 83, 3) := by decide +kernel
theorem dX5_part_19 : decode cX5_part 19 = .ok (.ifCond .eq 8, 3) := by decide +kernel
theorem dX5_part_22 : decode cX5_part 22 = .ok (.iload_n 1, 1) := by decide +kernel
theorem dX5_part_23 : decode cX5_part 23 = .ok (.iload_n 2, 1) := by decide +kernel
theorem dX5_part_24 : decode cX5_part 24 = .ok (.if_icmp .ne 5, 3) := by decide +kernel
theorem dX5_part_27 : decode cX5_part 27 = .ok (.iconst (-1), 1) := by decide +kernel
theorem dX5_part_28 : decode cX5_part 28 = .ok (.ireturn, 1) := by decide +kernel
theorem dX5_part_29 : decode cX5_part 29 = .ok (.aload_n 0, 1) := by decide +kernel
theorem dX5_part_30 : decode cX5_part 30 = .ok (.getfield 14, 3) := by decide +kernel
theorem dX5_part_33 : decode cX5_part 33 = .ok (.getfield 158, 3) := by decide +kernel
theorem dX5_part_36 : decode cX5_part 36 = .ok (.iload_n 1, 1) := by decide +kernel
theorem dX5_part_37 : decode cX5_part 37 = .ok (.aaload, 1) := by decide +kernel
theorem dX5_part_38 : decode cX5_part 38 = .ok (.iload_n 2, 1) := by decide +kernel
theorem dX5_part_39 : decode cX5_part 39 = .ok (.iaload, 1) := by decide +kernel
theorem dX5_part_40 : decode cX5_part 40 = .ok (.iconst 1, 1) := by decide +kernel
theorem dX5_part_41 : decode cX5_part 41 = .ok (.if_icmp .eq 6, 3) := by decide +kernel
theorem dX5_part_44 : decode cX5_part 44 = .ok (.bipush (-3), 2) := by decide +kernel
theorem dX5_part_46 : decode cX5_part 46 = .ok (.ireturn, 1) := by decide +kernel
theorem dX5_part_47 : decode cX5_part 47 = .ok (.iconst 0, 1) := by decide +kernel
theorem dX5_part_48 : decode cX5_part 48 = .ok (.istore_n 3, 1) := by decide +kernel
theorem dX5_part_49 : decode cX5_part 49 = .ok (.iconst 0, 1) := by decide +kernel
theorem dX5_part_50 : decode cX5_part 50 = .ok (.istore 4, 2) := by decide +kernel
theorem dX5_part_52 : decode cX5_part 52 = .ok (.iload 4, 2) := by decide +kernel
theorem dX5_part_54 : decode cX5_part 54 = .ok (.aload_n 0, 1) := by decide +kernel
theorem dX5_part_55 : decode cX5_part 55 = .ok (.getfield 14, 3) := by decide +kernel
theorem dX5_part_58 : decode cX5_part 58 = .ok (.getfield 80, 3) := by decide +kernel
theorem dX5_part_61 : decode cX5_part 61 = .ok (.if_icmp .ge 35, 3) := by decide +kernel
theorem dX5_part_64 : decode cX5_part 64 = .ok (.aload_n 0, 1) := by decide +kernel
theorem dX5_part_65 : decode cX5_part 65 = .ok (.getfield 14, 3) := by decide +kernel
theorem dX5_part_68 : decode cX5_part 68 = .ok (.iload 4, 2) := by decide +kernel
theorem dX5_part_70 : decode cX5_part 70 = .ok (.iload_n 2, 1) := by decide +kernel
theorem dX5_part_71 : decode cX5_part 71 = .ok (.iload_n 1, 1) := by decide +kernel
theorem dX5_part_72 : decode cX5_part 72 = .ok (.invokevirtual 162, 3) := by decide +kernel
theorem dX5_part_75 : decode cX5_part 75 = .ok (.ifCond .eq 15, 3) := by decide +kernel
theorem dX5_part_78 : decode cX5_part 78 = .ok (.iload_n 3, 1) := by decide +kernel
theorem dX5_part_79 : decode cX5_part 79 = .ok (.aload_n 0, 1) := by decide +kernel
theorem dX5_part_80 : decode cX5_part 80 = .ok (.getfield 14, 3) := by decide +kernel
theorem dX5_part_83 : decode cX5_part 83 = .ok (.iload 4, 2) := by decide +kernel
theorem dX5_part_85 : decode cX5_part 85 = .ok (.invokevirtual 93, 3) := by decide +kernel
theorem dX5_part_88 : decode cX5_part 88 = .ok (.iadd, 1) := by decide +kernel
theorem dX5_part_89 : decode cX5_part 89 = .ok (.istore_n 3, 1) := by decide +kernel
theorem dX5_part_90 : decode cX5_part 90 = .ok (.iinc 4 1, 3) := by decide +kernel
theorem dX5_part_93 : decode cX5_part 93 = .ok (.goto (-41), 3) := by decide +kernel
theorem dX5_part_96 : decode cX5_part 96 = .ok (.iload_n 3, 1) := by decide +kernel
theorem dX5_part_97 : decode cX5_part 97 = .ok (.ireturn, 1) := by decide +kernel
theorem dX5_reading_0 : decode cX5_reading 0 = .ok (.aload_n 0, 1) := by decide +kernel
theorem dX5_reading_1 : decode cX5_reading 1 = .ok (.getfield 14, 3) := by decide +kernel
theorem dX5_reading_4 : decode cX5_reading 4 = .ok (.iload_n 1, 1) := by decide +kernel
theorem dX5_reading_5 : decode cX5_reading 5 = .ok (.invokevirtual 83, 3) := by decide +kernel
theorem dX5_reading_8 : decode cX5_reading 8 = .ok (.ifCond .eq 14, 3) := by decide +kernel
theorem dX5_reading_11 : decode cX5_reading 11 = .ok (.aload_n 0, 1) := by decide +kernel
theorem dX5_reading_12 : decode cX5_reading 12 = .ok (.getfield 14, 3) := by decide +kernel
theorem dX5_reading_15 : decode cX5_reading 15 = .ok (.iload_n 2, 1) := by decide +kernel
theorem dX5_reading_16 : decode cX5_reading 16 = .ok (.invokevirtual 83, 3) := by decide +kernel
theorem dX5_reading_19 : decode cX5_reading 19 = .ok (.ifCond .ne 5, 3) := by decide +kernel
theorem dX5_reading_22 : decode cX5_reading 22 = .ok (.iconst (-1), 1) := by decide +kernel
theorem dX5_reading_23 : decode cX5_reading 23 = .ok (.ireturn, 1) := by decide +kernel
theorem dX5_reading_24 : decode cX5_reading 24 = .ok (.iload_n 3, 1) := by decide +kernel
theorem dX5_reading_25 : decode cX5_reading 25 = .ok (.ifCond .lt 10, 3) := by decide +kernel
theorem dX5_reading_28 : decode cX5_reading 28 = .ok (.iload_n 3, 1) := by decide +kernel
theorem dX5_reading_29 : decode cX5_reading 29 = .ok (.sipush 200, 3) := by decide +kernel
theorem dX5_reading_32 : decode cX5_reading 32 = .ok (.if_icmp .le 6, 3) := by decide +kernel
theorem dX5_reading_35 : decode cX5_reading 35 = .ok (.bipush (-2), 2) := by decide +kernel
theorem dX5_reading_37 : decode cX5_reading 37 = .ok (.ireturn, 1) := by decide +kernel
theorem dX5_reading_38 : decode cX5_reading 38 = .ok (.aload_n 0, 1) := by decide +kernel
theorem dX5_reading_39 : decode cX5_reading 39 = .ok (.getfield 31, 3) := by decide +kernel
theorem dX5_reading_42 : decode cX5_reading 42 = .ok (.getfield 77, 3) := by decide +kernel
theorem dX5_reading_45 : decode cX5_reading 45 = .ok (.bipush 8, 2) := by decide +kernel
theorem dX5_reading_47 : decode cX5_reading 47 = .ok (.if_icmp .lt 6, 3) := by decide +kernel
theorem dX5_reading_50 : decode cX5_reading 50 = .ok (.bipush (-4), 2) := by decide +kernel
theorem dX5_reading_52 : decode cX5_reading 52 = .ok (.ireturn, 1) := by decide +kernel
theorem dX5_reading_53 : decode cX5_reading 53 = .ok (.aload_n 0, 1) := by decide +kernel
theorem dX5_reading_54 : decode cX5_reading 54 = .ok (.getfield 31, 3) := by decide +kernel
theorem dX5_reading_57 : decode cX5_reading 57 = .ok (.iload_n 1, 1) := by decide +kernel
theorem dX5_reading_58 : decode cX5_reading 58 = .ok (.iload_n 2, 1) := by decide +kernel
theorem dX5_reading_59 : decode cX5_reading 59 = .ok (.iload_n 3, 1) := by decide +kernel
theorem dX5_reading_60 : decode cX5_reading 60 = .ok (.invokevirtual 179, 3) := by decide +kernel
theorem dX5_reading_63 : decode cX5_reading 63 = .ok (.ireturn, 1) := by decide +kernel
theorem dX5_back_0 : decode cX5_back 0 = .ok (.iload_n 1, 1) := by decide +kernel
theorem dX5_back_1 : decode cX5_back 1 = .ok (.ifCond .lt 14, 3) := by decide +kernel
theorem dX5_back_4 : decode cX5_back 4 = .ok (.iload_n 1, 1) := by decide +kernel
theorem dX5_back_5 : decode cX5_back 5 = .ok (.aload_n 0, 1) := by decide +kernel
theorem dX5_back_6 : decode cX5_back 6 = .ok (.getfield 31, 3) := by decide +kernel
theorem dX5_back_9 : decode cX5_back 9 = .ok (.getfield 77, 3) := by decide +kernel
theorem dX5_back_12 : decode cX5_back 12 = .ok (.if_icmp .le 6, 3) := by decide +kernel
theorem dX5_back_15 : decode cX5_back 15 = .ok (.bipush (-2), 2) := by decide +kernel
theorem dX5_back_17 : decode cX5_back 17 = .ok (.ireturn, 1) := by decide +kernel
theorem dX5_back_18 : decode cX5_back 18 = .ok (.aload_n 0, 1) := by decide +kernel
theorem dX5_back_19 : decode cX5_back 19 = .ok (.getfield 31, 3) := by decide +kernel
theorem dX5_back_22 : decode cX5_back 22 = .ok (.dup, 1) := by decide +kernel
theorem dX5_back_23 : decode cX5_back 23 = .ok (.getfield 77, 3) := by decide +kernel
theorem dX5_back_26 : decode cX5_back 26 = .ok (.iload_n 1, 1) := by decide +kernel
theorem dX5_back_27 : decode cX5_back 27 = .ok (.isub, 1) := by decide +kernel
theorem dX5_back_28 : decode cX5_back 28 = .ok (.putfield 77, 3) := by decide +kernel
theorem dX5_back_31 : decode cX5_back 31 = .ok (.aload_n 0, 1) := by decide +kernel
theorem dX5_back_32 : decode cX5_back 32 = .ok (.getfield 31, 3) := by decide +kernel
theorem dX5_back_35 : decode cX5_back 35 = .ok (.getfield 77, 3) := by decide +kernel
theorem dX5_back_38 : decode cX5_back 38 = .ok (.ireturn, 1) := by decide +kernel
theorem dX5_loadings_0 : decode cX5_loadings 0 = .ok (.aload_n 0, 1) := by decide +kernel
theorem dX5_loadings_1 : decode cX5_loadings 1 = .ok (.getfield 14, 3) := by decide +kernel
