theorem dX6_init_0 : decode cX6_init 0 = .ok (.aload_n 0, 1) := by decide +kernel
theorem dX6_init_1 : decode cX6_init 1 = .ok (.invokespecial 1, 3) := by decide +kernel
theorem dX6_init_4 : decode cX6_init 4 = .ok (.aload_n 0, 1) := by decide +kernel
theorem dX6_init_5 : decode cX6_init 5 = .ok (.iconst 4, 1) := by decide +kernel
theorem dX6_init_6 : decode cX6_init 6 = .ok (.newarray .int, 2) := by decide +kernel
theorem dX6_init_8 : decode cX6_init 8 = .ok (.dup, 1) := by decide +kernel
theorem dX6_init_9 : decode cX6_init 9 = .ok (.iconst 0, 1) := by decide +kernel
theorem dX6_init_10 : decode cX6_init 10 = .ok (.bipush (-9), 2) := by decide +kernel
theorem dX6_init_12 : decode cX6_init 12 = .ok (.iastore, 1) := by decide +kernel
theorem dX6_init_13 : decode cX6_init 13 = .ok (.dup, 1) := by decide +kernel
theorem dX6_init_14 : decode cX6_init 14 = .ok (.iconst 1, 1) := by decide +kernel
theorem dX6_init_15 : decode cX6_init 15 = .ok (.bipush (-9), 2) := by decide +kernel
theorem dX6_init_17 : decode cX6_init 17 = .ok (.iastore, 1) := by decide +kernel
theorem dX6_init_18 : decode cX6_init 18 = .ok (.dup, 1) := by decide +kernel
theorem dX6_init_19 : decode cX6_init 19 = .ok (.iconst 2, 1) := by decide +kernel
theorem dX6_init_20 : decode cX6_init 20 = .ok (.bipush (-9), 2) := by decide +kernel
theorem dX6_init_22 : decode cX6_init 22 = .ok (.iastore, 1) := by decide +kernel
theorem dX6_init_23 : decode cX6_init 23 = .ok (.dup, 1) := by decide +kernel
theorem dX6_init_24 : decode cX6_init 24 = .ok (.iconst 3, 1) := by decide +kernel
theorem dX6_init_25 : decode cX6_init 25 = .ok (.bipush (-9), 2) := by decide +kernel
theorem dX6_init_27 : decode cX6_init 27 = .ok (.iastore, 1) := by decide +kernel
theorem dX6_init_28 : decode cX6_init 28 = .ok (.putfield 9, 3) := by decide +kernel
theorem dX6_init_31 : decode cX6_init 31 = .ok (.aload_n 0, 1) := by decide +kernel
theorem dX6_init_32 : decode cX6_init 32 = .ok (.iconst 4, 1) := by decide +kernel
theorem dX6_init_33 : decode cX6_init 33 = .ok (.newarray .int, 2) := by decide +kernel
theorem dX6_init_35 : decode cX6_init 35 = .ok (.putfield 13, 3) := by decide +kernel
theorem dX6_init_38 : decode cX6_init 38 = .ok (.aload_n 0, 1) := by decide +kernel
theorem dX6_init_39 : decode cX6_init 39 = .ok (.sipush 240, 3) := by decide +kernel
theorem dX6_init_42 : decode cX6_init 42 = .ok (.newarray .int, 2) := by decide +kernel
theorem dX6_init_44 : decode cX6_init 44 = .ok (.putfield 16, 3) := by decide +kernel
theorem dX6_init_47 : decode cX6_init 47 = .ok (.aload_n 0, 1) := by decide +kernel
theorem dX6_init_48 : decode cX6_init 48 = .ok (.bipush 8, 2) := by decide +kernel
theorem dX6_init_50 : decode cX6_init 50 = .ok (.newarray .int, 2) := by decide +kernel
theorem dX6_init_52 : decode cX6_init 52 = .ok (.putfield 19, 3) := by decide +kernel
theorem dX6_init_55 : decode cX6_init 55 = .ok (.aload_n 0, 1) := by decide +kernel
theorem dX6_init_56 : decode cX6_init 56 = .ok (.bipush 8, 2) := by decide +kernel
theorem dX6_init_58 : decode cX6_init 58 = .ok (.newarray .int, 2) := by decide +kernel
theorem dX6_init_60 : decode cX6_init 60 = .ok (.putfield 22, 3) := by decide +kernel
theorem dX6_init_63 : decode cX6_init 63 = .ok (.aload_n 0, 1) := by decide +kernel
theorem dX6_init_64 : decode cX6_init 64 = .ok (.bipush 8, 2) := by decide +kernel
theorem dX6_init_66 : decode cX6_init 66 = .ok (.newarray .int, 2) := by decide +kernel
theorem dX6_init_68 : decode cX6_init 68 = .ok (.putfield 25, 3) := by decide +kernel
theorem dX6_init_71 : decode cX6_init 71 = .ok (.aload_n 0, 1) := by decide +kernel
theorem dX6_init_72 : decode cX6_init 72 = .ok (.bipush 6, 2) := by decide +kernel
theorem dX6_init_74 : decode cX6_init 74 = .ok (.newarray .int, 2) := by decide +kernel
theorem dX6_init_76 : decode cX6_init 76 = .ok (.putfield 28, 3) := by decide +kernel
theorem dX6_init_79 : decode cX6_init 79 = .ok (.aload_n 0, 1) := by decide +kernel
theorem dX6_init_80 : decode cX6_init 80 = .ok (.bipush 8, 2) := by decide +kernel
theorem dX6_init_82 : decode cX6_init 82 = .ok (.newarray .int, 2) := by decide +kernel
theorem dX6_init_84 : decode cX6_init 84 = .ok (.putfield 31, 3) := by decide +kernel
theorem dX6_init_87 : decode cX6_init 87 = .ok (.aload_n 0, 1) := by decide +kernel
theorem dX6_init_88 : decode cX6_init 88 = .ok (.bipush 8, 2) := by decide +kernel
theorem dX6_init_90 : decode cX6_init 90 = .ok (.newarray .int, 2) := by decide +kernel
theorem dX6_init_92 : decode cX6_init 92 = .ok (.putfield 34, 3) := by decide +kernel
theorem dX6_init_95 : decode cX6_init 95 = .ok (.aload_n 0, 1) := by decide +kernel
theorem dX6_init_96 : decode cX6_init 96 = .ok (.bipush 64, 2) := by decide +kernel
theorem dX6_init_98 : decode cX6_init 98 = .ok (.newarray .int, 2) := by decide +kernel
theorem dX6_init_100 : decode cX6_init 100 = .ok (.putfield 37, 3) := by decide +kernel
theorem dX6_init_103 : decode cX6_init 103 = .ok (.aload_n 0, 1) := by decide +kernel
theorem dX6_init_104 : decode cX6_init 104 = .ok (.bipush 6, 2) := by decide +kernel
theorem dX6_init_106 : decode cX6_init 106 = .ok (.newarray .int, 2) := by decide +kernel
theorem dX6_init_108 : decode cX6_init 108 = .ok (.putfield 40, 3) := by decide +kernel
theorem dX6_init_111 : decode cX6_init 111 = .ok (.aload_n 0, 1) := by decide +kernel
theorem dX6_init_112 : decode cX6_init 112 = .ok (.bipush 8, 2) := by decide +kernel
theorem dX6_init_114 : decode cX6_init 114 = .ok (.newarray .int, 2) := by decide +kernel
theorem dX6_init_116 : decode cX6_init 116 = .ok (.putfield 43, 3) := by decide +kernel
theorem dX6_init_119 : decode cX6_init 119 = .ok (.aload_n 0, 1) := by decide +kernel
theorem dX6_init_120 : decode cX6_init 120 = .ok (.bipush 8, 2) := by decide +kernel
theorem dX6_init_122 : decode cX6_init 122 = .ok (.newarray .int, 2) := by decide +kernel
theorem dX6_init_124 : decode cX6_init 124 = .ok (.putfield 46, 3) := by decide +kernel
theorem dX6_init_127 : decode cX6_init 127 = .ok (.aload_n 0, 1) := by decide +kernel
theorem dX6_init_128 : decode cX6_init 128 = .ok (.bipush 8, 2) := by decide +kernel
theorem dX6_init_130 : decode cX6_init 130 = .ok (.newarray .int, 2) := by decide +kernel
theorem dX6_init_132 : decode cX6_init 132 = .ok (.putfield 49, 3) := by decide +kernel
theorem dX6_init_135 : decode cX6_init 135 = .ok (.aload_n 0, 1) := by decide +kernel
theorem dX6_init_136 : decode cX6_init 136 = .ok (.bipush 8, 2) := by decide +kernel
theorem dX6_init_138 : decode cX6_init 138 = .ok (.newarray .int, 2) := by decide +kernel
theorem dX6_init_140 : decode cX6_init 140 = .ok (.putfield 52, 3) := by decide +kernel
theorem dX6_init_143 : decode cX6_init 143 = .ok (.aload_n 0, 1) := by decide +kernel
theorem dX6_init_144 : decode cX6_init 144 = .ok (.bipush 7, 2) := by decide +kernel
theorem dX6_init_146 : decode cX6_init 146 = .ok (.newarray .int, 2) := by decide +kernel
theorem dX6_init_148 : decode cX6_init 148 = .ok (.putfield 55, 3) := by decide +kernel
theorem dX6_init_151 : decode cX6_init 151 = .ok (.aload_n 0, 1) := by decide +kernel
theorem dX6_init_152 : decode cX6_init 152 = .ok (.bipush 7, 2) := by decide +kernel
theorem dX6_init_154 : decode cX6_init 154 = .ok (.newarray .int, 2) := by decide +kernel
theorem dX6_init_156 : decode cX6_init 156 = .ok (.putfield 58, 3) := by decide +kernel
theorem dX6_init_159 : decode cX6_init 159 = .ok (.aload_n 0, 1) := by decide +kernel
theorem dX6_init_160 : decode cX6_init 160 = .ok (.bipush 8, 2) := by decide +kernel
theorem dX6_init_162 : decode cX6_init 162 = .ok (.newarray .int, 2) := by decide +kernel
theorem dX6_init_164 : decode cX6_init 164 = .ok (.putfield 61, 3) := by decide +kernel
theorem dX6_init_167 : decode cX6_init 167 = .ok (.aload_n 0, 1) := by decide +kernel
theorem dX6_init_168 : decode cX6_init 168 = .ok (.bipush 8, 2) := by decide +kernel
theorem dX6_init_170 : decode cX6_init 170 = .ok (.newarray .int, 2) := by decide +kernel
theorem dX6_init_172 : decode cX6_init 172 = .ok (.putfield 64, 3) := by decide +kernel
theorem dX6_init_175 : decode cX6_init 175 = .ok (.aload_n 0, 1) := by decide +kernel
theorem dX6_init_176 : decode cX6_init 176 = .ok (.bipush 8, 2) := by decide +kernel
theorem dX6_init_178 : decode cX6_init 178 = .ok (.newarray .int, 2) := by decide +kernel
theorem dX6_init_180 : decode cX6_init 180 = .ok (.putfield 67, 3) := by decide +kernel
theorem dX6_init_183 : decode cX6_init 183 = .ok (.return_, 1) := by decide +kernel
theorem dX6_fails_0 : decode cX6_fails 0 = .ok (.aload_n 0, 1) := by decide +kernel
theorem dX6_fails_1 : decode cX6_fails 1 = .ok (.iload_n 1, 1) := by decide +kernel
theorem dX6_fails_2 : decode cX6_fails 2 = .ok (.putfield 70, 3) := by decide +kernel
theorem dX6_fails_5 : decode cX6_fails 5 = .ok (.bipush (-10), 2) := by decide +kernel
theorem dX6_fails_7 : decode cX6_fails 7 = .ok (.iload_n 1, 1) := by decide +kernel
theorem dX6_fails_8 : decode cX6_fails 8 = .ok (.isub, 1) := by decide +kernel
theorem dX6_fails_9 : decode cX6_fails 9 = .ok (.ireturn, 1) := by decide +kernel
theorem dX6_lost_0 : decode cX6_lost 0 = .ok (.aload_n 0, 1) := by decide +kernel
theorem dX6_lost_1 : decode cX6_lost 1 = .ok (.iload_n 1, 1) := by decide +kernel
theorem dX6_lost_2 : decode cX6_lost 2 = .ok (.putfield 70, 3) := by decide +kernel
theorem dX6_lost_5 : decode cX6_lost 5 = .ok (.ldc2_w 74, 3) := by decide +kernel
theorem dX6_lost_8 : decode cX6_lost 8 = .ok (.lreturn, 1) := by decide +kernel
theorem dX6_within_0 : decode cX6_within 0 = .ok (.iload_n 0, 1) := by decide +kernel
theorem dX6_within_1 : decode cX6_within 1 = .ok (.iload_n 1, 1) := by decide +kernel
theorem dX6_within_2 : decode cX6_within 2 = .ok (.if_icmp .lt 12, 3) := by decide +kernel
theorem dX6_within_5 : decode cX6_within 5 = .ok (.iload_n 0, 1) := by decide +kernel
theorem dX6_within_6 : decode cX6_within 6 = .ok (.iload_n 2, 1) := by decide +kernel
theorem dX6_within_7 : decode cX6_within 7 = .ok (.if_icmp .gt 7, 3) := by decide +kernel
theorem dX6_within_10 : decode cX6_within 10 = .ok (.iconst 1, 1) := by decide +kernel
theorem dX6_within_11 : decode cX6_within 11 = .ok (.goto 4, 3) := by decide +kernel
theorem dX6_within_14 : decode cX6_within 14 = .ok (.iconst 0, 1) := by decide +kernel
theorem dX6_within_15 : decode cX6_within 15 = .ok (.ireturn, 1) := by decide +kernel
theorem dX6_isSheet_0 : decode cX6_isSheet 0 = .ok (.iload_n 0, 1) := by decide +kernel
theorem dX6_isSheet_1 : decode cX6_isSheet 1 = .ok (.iconst 0, 1) := by decide +kernel
theorem dX6_isSheet_2 : decode cX6_isSheet 2 = .ok (.iconst 3, 1) := by decide +kernel
theorem dX6_isSheet_3 : decode cX6_isSheet 3 = .ok (.invokestatic 76, 3) := by decide +kernel
theorem dX6_isSheet_6 : decode cX6_isSheet 6 = .ok (.ireturn, 1) := by decide +kernel
theorem dX6_isSort_0 : decode cX6_isSort 0 = .ok (.iload_n 0, 1) := by decide +kernel
theorem dX6_isSort_1 : decode cX6_isSort 1 = .ok (.iconst 0, 1) := by decide +kernel
theorem dX6_isSort_2 : decode cX6_isSort 2 = .ok (.iconst 2, 1) := by decide +kernel
theorem dX6_isSort_3 : decode cX6_isSort 3 = .ok (.invokestatic 76, 3) := by decide +kernel
theorem dX6_isSort_6 : decode cX6_isSort 6 = .ok (.ireturn, 1) := by decide +kernel
theorem dX6_against_0 : decode cX6_against 0 = .ok (.aload_n 0, 1) := by decide +kernel
theorem dX6_against_1 : decode cX6_against 1 = .ok (.getfield 9, 3) := by decide +kernel
theorem dX6_against_4 : decode cX6_against 4 = .ok (.iload_n 1, 1) := by decide +kernel
theorem dX6_against_5 : decode cX6_against 5 = .ok (.iaload, 1) := by decide +kernel
theorem dX6_against_6 : decode cX6_against 6 = .ok (.bipush (-9), 2) := by decide +kernel
theorem dX6_against_8 : decode cX6_against 8 = .ok (.if_icmp .eq 15, 3) := by decide +kernel
theorem dX6_against_11 : decode cX6_against 11 = .ok (.aload_n 0, 1) := by decide +kernel
theorem dX6_against_12 : decode cX6_against 12 = .ok (.getfield 9, 3) := by decide +kernel
theorem dX6_against_15 : decode cX6_against 15 = .ok (.iload_n 1, 1) := by decide +kernel
theorem dX6_against_16 : decode cX6_against 16 = .ok (.iaload, 1) := by decide +kernel
theorem dX6_against_17 : decode cX6_against 17 = .ok (.iload_n 2, 1) := by decide +kernel
theorem dX6_against_18 : decode cX6_against 18 = .ok (.if_icmp .eq 5, 3) := by decide +kernel
theorem dX6_against_21 : decode cX6_against 21 = .ok (.iconst 2, 1) := by decide +kernel
theorem dX6_against_22 : decode cX6_against 22 = .ok (.ireturn, 1) := by decide +kernel
theorem dX6_against_23 : decode cX6_against 23 = .ok (.aload_n 0, 1) := by decide +kernel
theorem dX6_against_24 : decode cX6_against 24 = .ok (.getfield 9, 3) := by decide +kernel
theorem dX6_against_27 : decode cX6_against 27 = .ok (.iload_n 1, 1) := by decide +kernel
theorem dX6_against_28 : decode cX6_against 28 = .ok (.iaload, 1) := by decide +kernel
theorem dX6_against_29 : decode cX6_against 29 = .ok (.bipush (-9), 2) := by decide +kernel
theorem dX6_against_31 : decode cX6_against 31 = .ok (.if_icmp .ne 5, 3) := by decide +kernel
theorem dX6_against_34 : decode cX6_against 34 = .ok (.iconst 1, 1) := by decide +kernel
theorem dX6_against_35 : decode cX6_against 35 = .ok (.ireturn, 1) := by decide +kernel
theorem dX6_against_36 : decode cX6_against 36 = .ok (.iload 4, 2) := by decide +kernel
theorem dX6_against_38 : decode cX6_against 38 = .ok (.ifCond .ge 5, 3) := by decide +kernel
theorem dX6_against_41 : decode cX6_against 41 = .ok (.iconst 4, 1) := by decide +kernel
theorem dX6_against_42 : decode cX6_against 42 = .ok (.ireturn, 1) := by decide +kernel
theorem dX6_against_43 : decode cX6_against 43 = .ok (.iload_n 3, 1) := by decide +kernel
theorem dX6_against_44 : decode cX6_against 44 = .ok (.ifCond .lt 26, 3) := by decide +kernel
theorem dX6_against_47 : decode cX6_against 47 = .ok (.iload_n 3, 1) := by decide +kernel
theorem dX6_against_48 : decode cX6_against 48 = .ok (.aload_n 0, 1) := by decide +kernel
theorem dX6_against_49 : decode cX6_against 49 = .ok (.getfield 13, 3) := by decide +kernel
theorem dX6_against_52 : decode cX6_against 52 = .ok (.iload_n 1, 1) := by decide +kernel
theorem dX6_against_53 : decode cX6_against 53 = .ok (.iaload, 1) := by decide +kernel
theorem dX6_against_54 : decode cX6_against 54 = .ok (.if_icmp .gt 16, 3) := by decide +kernel
theorem dX6_against_57 : decode cX6_against 57 = .ok (.iload 4, 2) := by decide +kernel
theorem dX6_against_59 : decode cX6_against 59 = .ok (.aload_n 0, 1) := by decide +kernel
theorem dX6_against_60 : decode cX6_against 60 = .ok (.getfield 13, 3) := by decide +kernel
theorem dX6_against_63 : decode cX6_against 63 = .ok (.iload_n 1, 1) := by decide +kernel
theorem dX6_against_64 : decode cX6_against 64 = .ok (.iaload, 1) := by decide +kernel
theorem dX6_against_65 : decode cX6_against 65 = .ok (.iload_n 3, 1) := by decide +kernel
theorem dX6_against_66 : decode cX6_against 66 = .ok (.isub, 1) := by decide +kernel
theorem dX6_against_67 : decode cX6_against 67 = .ok (.if_icmp .le 7, 3) := by decide +kernel
theorem dX6_against_70 : decode cX6_against 70 = .ok (.iconst 3, 1) := by decide +kernel
theorem dX6_against_71 : decode cX6_against 71 = .ok (.goto 4, 3) := by decide +kernel
theorem dX6_against_74 : decode cX6_against 74 = .ok (.iconst 0, 1) := by decide +kernel
theorem dX6_against_75 : decode cX6_against 75 = .ok (.ireturn, 1) := by decide +kernel
theorem dX6_isPost_0 : decode cX6_isPost 0 = .ok (.iload_n 1, 1) := by decide +kernel
theorem dX6_isPost_1 : decode cX6_isPost 1 = .ok (.ifCond .lt 15, 3) := by decide +kernel
theorem dX6_isPost_4 : decode cX6_isPost 4 = .ok (.iload_n 1, 1) := by decide +kernel
theorem dX6_isPost_5 : decode cX6_isPost 5 = .ok (.aload_n 0, 1) := by decide +kernel
theorem dX6_isPost_6 : decode cX6_isPost 6 = .ok (.getfield 80, 3) := by decide +kernel
theorem dX6_isPost_9 : decode cX6_isPost 9 = .ok (.if_icmp .ge 7, 3) := by decide +kernel
theorem dX6_isPost_12 : decode cX6_isPost 12 = .ok (.iconst 1, 1) := by decide +kernel
theorem dX6_isPost_13 : decode cX6_isPost 13 = .ok (.goto 4, 3) := by decide +kernel
theorem dX6_isPost_16 : decode cX6_isPost 16 = .ok (.iconst 0, 1) := by decide +kernel
theorem dX6_isPost_17 : decode cX6_isPost 17 = .ok (.ireturn, 1) := by decide +kernel
theorem dX6_areTwo_0 : decode cX6_areTwo 0 = .ok (.aload_n 0, 1) := by decide +kernel
theorem dX6_areTwo_1 : decode cX6_areTwo 1 = .ok (.iload_n 1, 1) := by decide +kernel
theorem dX6_areTwo_2 : decode cX6_areTwo 2 = .ok (.invokevirtual 83, 3) := by decide +kernel
theorem dX6_areTwo_5 : decode cX6_areTwo 5 = .ok (.ifCond .eq 20, 3) := by decide +kernel
theorem dX6_areTwo_8 : decode cX6_areTwo 8 = .ok (.aload_n 0, 1) := by decide +kernel
theorem dX6_areTwo_9 : decode cX6_areTwo 9 = .ok (.iload_n 2, 1) := by decide +kernel
theorem dX6_areTwo_10 : decode cX6_areTwo 10 = .ok (.invokevirtual 83, 3) := by decide +kernel
theorem dX6_areTwo_13 : decode cX6_areTwo 13 = .ok (.ifCond .eq 12, 3) := by decide +kernel
theorem dX6_areTwo_16 : decode cX6_areTwo 16 = .ok (.iload_n 1, 1) := by decide +kernel
theorem dX6_areTwo_17 : decode cX6_areTwo 17 = .ok (.iload_n 2, 1) := by decide +kernel
theorem dX6_areTwo_18 : decode cX6_areTwo 18 = .ok (.if_icmp .eq 7, 3) := by decide +kernel
theorem dX6_areTwo_21 : decode cX6_areTwo 21 = .ok (.iconst 1, 1) := by decide +kernel
theorem dX6_areTwo_22 : decode cX6_areTwo 22 = .ok (.goto 4, 3) := by decide +kernel
theorem dX6_areTwo_25 : decode cX6_areTwo 25 = .ok (.iconst 0, 1) := by decide +kernel
theorem dX6_areTwo_26 : decode cX6_areTwo 26 = .ok (.ireturn, 1) := by decide +kernel
theorem dX6_isOf_0 : decode cX6_isOf 0 = .ok (.iload_n 0, 1) := by decide +kernel
theorem dX6_isOf_1 : decode cX6_isOf 1 = .ok (.iload_n 1, 1) := by decide +kernel
theorem dX6_isOf_2 : decode cX6_isOf 2 = .ok (.ishr, 1) := by decide +kernel
theorem dX6_isOf_3 : decode cX6_isOf 3 = .ok (.iconst 1, 1) := by decide +kernel
theorem dX6_isOf_4 : decode cX6_isOf 4 = .ok (.iand, 1) := by decide +kernel
theorem dX6_isOf_5 : decode cX6_isOf 5 = .ok (.iconst 1, 1) := by decide +kernel
theorem dX6_isOf_6 : decode cX6_isOf 6 = .ok (.if_icmp .ne 7, 3) := by decide +kernel
theorem dX6_isOf_9 : decode cX6_isOf 9 = .ok (.iconst 1, 1) := by decide +kernel
theorem dX6_isOf_10 : decode cX6_isOf 10 = .ok (.goto 4, 3) := by decide +kernel
theorem dX6_isOf_13 : decode cX6_isOf 13 = .ok (.iconst 0, 1) := by decide +kernel
theorem dX6_isOf_14 : decode cX6_isOf 14 = .ok (.ireturn, 1) := by decide +kernel
theorem dX6_size_0 : decode cX6_size 0 = .ok (.iconst 0, 1) := by decide +kernel
theorem dX6_size_1 : decode cX6_size 1 = .ok (.istore_n 1, 1) := by decide +kernel
theorem dX6_size_2 : decode cX6_size 2 = .ok (.iload_n 0, 1) := by decide +kernel
theorem dX6_size_3 : decode cX6_size 3 = .ok (.istore_n 2, 1) := by decide +kernel
theorem dX6_size_4 : decode cX6_size 4 = .ok (.iload_n 2, 1) := by decide +kernel
theorem dX6_size_5 : decode cX6_size 5 = .ok (.ifCond .le 16, 3) := by decide +kernel
theorem dX6_size_8 : decode cX6_size 8 = .ok (.iload_n 1, 1) := by decide +kernel
theorem dX6_size_9 : decode cX6_size 9 = .ok (.iload_n 2, 1) := by decide +kernel
theorem dX6_size_10 : decode cX6_size 10 = .ok (.iconst 1, 1) := by decide +kernel
theorem dX6_size_11 : decode cX6_size 11 = .ok (.iand, 1) := by decide +kernel
theorem dX6_size_12 : decode cX6_size 12 = .ok (.iadd, 1) := by decide +kernel
theorem dX6_size_13 : decode cX6_size 13 = .ok (.istore_n 1, 1) := by decide +kernel
theorem dX6_size_14 : decode cX6_size 14 = .ok (.iload_n 2, 1) := by decide +kernel
theorem dX6_size_15 : decode cX6_size 15 = .ok (.iconst 1, 1) := by decide +kernel
theorem dX6_size_16 : decode cX6_size 16 = .ok (.ishr, 1) := by decide +kernel
theorem dX6_size_17 : decode cX6_size 17 = .ok (.istore_n 2, 1) := by decide +kernel
theorem dX6_size_18 : decode cX6_size 18 = .ok (.goto (-14), 3) := by decide +kernel
theorem dX6_size_21 : decode cX6_size 21 = .ok (.iload_n 1, 1) := by decide +kernel
theorem dX6_size_22 : decode cX6_size 22 = .ok (.ireturn, 1) := by decide +kernel
theorem dX6_leastOf_0 : decode cX6_leastOf 0 = .ok (.iconst 0, 1) := by decide +kernel
theorem dX6_leastOf_1 : decode cX6_leastOf 1 = .ok (.istore_n 1, 1) := by decide +kernel
theorem dX6_leastOf_2 : decode cX6_leastOf 2 = .ok (.iload_n 0, 1) := by decide +kernel
theorem dX6_leastOf_3 : decode cX6_leastOf 3 = .ok (.iload_n 1, 1) := by decide +kernel
theorem dX6_leastOf_4 : decode cX6_leastOf 4 = .ok (.invokestatic 87, 3) := by decide +kernel
theorem dX6_leastOf_7 : decode cX6_leastOf 7 = .ok (.ifCond .ne 9, 3) := by decide +kernel
theorem dX6_leastOf_10 : decode cX6_leastOf 10 = .ok (.iinc 1 1, 3) := by decide +kernel
theorem dX6_leastOf_13 : decode cX6_leastOf 13 = .ok (.goto (-11), 3) := by decide +kernel
theorem dX6_leastOf_16 : decode cX6_leastOf 16 = .ok (.iload_n 1, 1) := by decide +kernel
theorem dX6_leastOf_17 : decode cX6_leastOf 17 = .ok (.ireturn, 1) := by decide +kernel
theorem dX6_digit_0 : decode cX6_digit 0 = .ok (.aload_n 0, 1) := by decide +kernel
theorem dX6_digit_1 : decode cX6_digit 1 = .ok (.getfield 91, 3) := by decide +kernel
theorem dX6_digit_4 : decode cX6_digit 4 = .ok (.iload_n 1, 1) := by decide +kernel
theorem dX6_digit_5 : decode cX6_digit 5 = .ok (.if_icmp .ge 26, 3) := by decide +kernel
theorem dX6_digit_8 : decode cX6_digit 8 = .ok (.aload_n 0, 1) := by decide +kernel
theorem dX6_digit_9 : decode cX6_digit 9 = .ok (.getfield 16, 3) := by decide +kernel
theorem dX6_digit_12 : decode cX6_digit 12 = .ok (.aload_n 0, 1) := by decide +kernel
theorem dX6_digit_13 : decode cX6_digit 13 = .ok (.getfield 91, 3) := by decide +kernel
theorem dX6_digit_16 : decode cX6_digit 16 = .ok (.iaload, 1) := by decide +kernel
theorem dX6_digit_17 : decode cX6_digit 17 = .ok (.bipush 48, 2) := by decide +kernel
theorem dX6_digit_19 : decode cX6_digit 19 = .ok (.iload_n 2, 1) := by decide +kernel
theorem dX6_digit_20 : decode cX6_digit 20 = .ok (.iadd, 1) := by decide +kernel
theorem dX6_digit_21 : decode cX6_digit 21 = .ok (.bipush 48, 2) := by decide +kernel
theorem dX6_digit_23 : decode cX6_digit 23 = .ok (.iload_n 3, 1) := by decide +kernel
theorem dX6_digit_24 : decode cX6_digit 24 = .ok (.iadd, 1) := by decide +kernel
theorem dX6_digit_25 : decode cX6_digit 25 = .ok (.invokestatic 76, 3) := by decide +kernel
theorem dX6_digit_28 : decode cX6_digit 28 = .ok (.ifCond .ne 6, 3) := by decide +kernel
theorem dX6_digit_31 : decode cX6_digit 31 = .ok (.bipush (-9), 2) := by decide +kernel
theorem dX6_digit_33 : decode cX6_digit 33 = .ok (.ireturn, 1) := by decide +kernel
theorem dX6_digit_34 : decode cX6_digit 34 = .ok (.aload_n 0, 1) := by decide +kernel
theorem dX6_digit_35 : decode cX6_digit 35 = .ok (.dup, 1) := by decide +kernel
theorem dX6_digit_36 : decode cX6_digit 36 = .ok (.getfield 91, 3) := by decide +kernel
theorem dX6_digit_39 : decode cX6_digit 39 = .ok (.iconst 1, 1) := by decide +kernel
theorem dX6_digit_40 : decode cX6_digit 40 = .ok (.iadd, 1) := by decide +kernel
theorem dX6_digit_41 : decode cX6_digit 41 = .ok (.putfield 91, 3) := by decide +kernel
theorem dX6_digit_44 : decode cX6_digit 44 = .ok (.aload_n 0, 1) := by decide +kernel
theorem dX6_digit_45 : decode cX6_digit 45 = .ok (.getfield 16, 3) := by decide +kernel
theorem dX6_digit_48 : decode cX6_digit 48 = .ok (.aload_n 0, 1) := by decide +kernel
theorem dX6_digit_49 : decode cX6_digit 49 = .ok (.getfield 91, 3) := by decide +kernel
theorem dX6_digit_52 : decode cX6_digit 52 = .ok (.iconst 1, 1) := by decide +kernel
theorem dX6_digit_53 : decode cX6_digit 53 = .ok (.isub, 1) := by decide +kernel
theorem dX6_digit_54 : decode cX6_digit 54 = .ok (.iaload, 1) := by decide +kernel
theorem dX6_digit_55 : decode cX6_digit 55 = .ok (.bipush 48, 2) := by decide +kernel
theorem dX6_digit_57 : decode cX6_digit 57 = .ok (.isub, 1) := by decide +kernel
theorem dX6_digit_58 : decode cX6_digit 58 = .ok (.ireturn, 1) := by decide +kernel
theorem dX6_vine_0 : decode cX6_vine 0 = .ok (.aload_n 0, 1) := by decide +kernel
theorem dX6_vine_1 : decode cX6_vine 1 = .ok (.iconst 0, 1) := by decide +kernel
theorem dX6_vine_2 : decode cX6_vine 2 = .ok (.putfield 70, 3) := by decide +kernel
theorem dX6_vine_5 : decode cX6_vine 5 = .ok (.iload_n 1, 1) := by decide +kernel
theorem dX6_vine_6 : decode cX6_vine 6 = .ok (.invokestatic 94, 3) := by decide +kernel
theorem dX6_vine_9 : decode cX6_vine 9 = .ok (.ifCond .ne 5, 3) := by decide +kernel
theorem dX6_vine_12 : decode cX6_vine 12 = .ok (.iconst (-1), 1) := by decide +kernel
theorem dX6_vine_13 : decode cX6_vine 13 = .ok (.ireturn, 1) := by decide +kernel
theorem dX6_vine_14 : decode cX6_vine 14 = .ok (.iload_n 2, 1) := by decide +kernel
theorem dX6_vine_15 : decode cX6_vine 15 = .ok (.invokestatic 97, 3) := by decide +kernel
theorem dX6_vine_18 : decode cX6_vine 18 = .ok (.ifCond .ne 6, 3) := by decide +kernel
theorem dX6_vine_21 : decode cX6_vine 21 = .ok (.bipush (-2), 2) := by decide +kernel
theorem dX6_vine_23 : decode cX6_vine 23 = .ok (.ireturn, 1) := by decide +kernel
theorem dX6_vine_24 : decode cX6_vine 24 = .ok (.aload_n 0, 1) := by decide +kernel
theorem dX6_vine_25 : decode cX6_vine 25 = .ok (.iload_n 1, 1) := by decide +kernel
theorem dX6_vine_26 : decode cX6_vine 26 = .ok (.iload_n 2, 1) := by decide +kernel
theorem dX6_vine_27 : decode cX6_vine 27 = .ok (.iload_n 3, 1) := by decide +kernel
theorem dX6_vine_28 : decode cX6_vine 28 = .ok (.iload 4, 2) := by decide +kernel
theorem dX6_vine_30 : decode cX6_vine 30 = .ok (.invokevirtual 100, 3) := by decide +kernel
theorem dX6_vine_33 : decode cX6_vine 33 = .ok (.istore 5, 2) := by decide +kernel
theorem dX6_vine_35 : decode cX6_vine 35 = .ok (.iload 5, 2) := by decide +kernel
theorem dX6_vine_37 : decode cX6_vine 37 = .ok (.ifCond .eq 10, 3) := by decide +kernel
theorem dX6_vine_40 : decode cX6_vine 40 = .ok (.aload_n 0, 1) := by decide +kernel
theorem dX6_vine_41 : decode cX6_vine 41 = .ok (.iload 5, 2) := by decide +kernel
theorem dX6_vine_43 : decode cX6_vine 43 = .ok (.invokevirtual 104, 3) := by decide +kernel
theorem dX6_vine_46 : decode cX6_vine 46 = .ok (.ireturn, 1) := by decide +kernel
theorem dX6_vine_47 : decode cX6_vine 47 = .ok (.bipush 60, 2) := by decide +kernel
theorem dX6_vine_49 : decode cX6_vine 49 = .ok (.iload_n 1, 1) := by decide +kernel
theorem dX6_vine_50 : decode cX6_vine 50 = .ok (.imul, 1) := by decide +kernel
theorem dX6_vine_51 : decode cX6_vine 51 = .ok (.iload_n 3, 1) := by decide +kernel
theorem dX6_vine_52 : decode cX6_vine 52 = .ok (.iadd, 1) := by decide +kernel
theorem dX6_vine_53 : decode cX6_vine 53 = .ok (.istore 6, 2) := by decide +kernel
theorem dX6_vine_55 : decode cX6_vine 55 = .ok (.aload_n 0, 1) := by decide +kernel
theorem dX6_vine_56 : decode cX6_vine 56 = .ok (.iload 6, 2) := by decide +kernel
theorem dX6_vine_58 : decode cX6_vine 58 = .ok (.putfield 91, 3) := by decide +kernel
theorem dX6_vine_61 : decode cX6_vine 61 = .ok (.aload_n 0, 1) := by decide +kernel
theorem dX6_vine_62 : decode cX6_vine 62 = .ok (.iload 6, 2) := by decide +kernel
theorem dX6_vine_64 : decode cX6_vine 64 = .ok (.iload 4, 2) := by decide +kernel
theorem dX6_vine_66 : decode cX6_vine 66 = .ok (.iadd, 1) := by decide +kernel
theorem dX6_vine_67 : decode cX6_vine 67 = .ok (.invokevirtual 108, 3) := by decide +kernel
theorem dX6_vine_70 : decode cX6_vine 70 = .ok (.ifCond .ne 14, 3) := by decide +kernel
theorem dX6_vine_73 : decode cX6_vine 73 = .ok (.bipush (-100), 2) := by decide +kernel
theorem dX6_vine_75 : decode cX6_vine 75 = .ok (.aload_n 0, 1) := by decide +kernel
theorem dX6_vine_76 : decode cX6_vine 76 = .ok (.getfield 91, 3) := by decide +kernel
theorem dX6_vine_79 : decode cX6_vine 79 = .ok (.iload 6, 2) := by decide +kernel
theorem dX6_vine_81 : decode cX6_vine 81 = .ok (.isub, 1) := by decide +kernel
theorem dX6_vine_82 : decode cX6_vine 82 = .ok (.isub, 1) := by decide +kernel
theorem dX6_vine_83 : decode cX6_vine 83 = .ok (.ireturn, 1) := by decide +kernel
theorem dX6_vine_84 : decode cX6_vine 84 = .ok (.aload_n 0, 1) := by decide +kernel
theorem dX6_vine_85 : decode cX6_vine 85 = .ok (.aload_n 0, 1) := by decide +kernel
theorem dX6_vine_86 : decode cX6_vine 86 = .ok (.getfield 111, 3) := by decide +kernel
theorem dX6_vine_89 : decode cX6_vine 89 = .ok (.putfield 80, 3) := by decide +kernel
theorem dX6_vine_92 : decode cX6_vine 92 = .ok (.iconst 0, 1) := by decide +kernel
theorem dX6_vine_93 : decode cX6_vine 93 = .ok (.istore 7, 2) := by decide +kernel
theorem dX6_vine_95 : decode cX6_vine 95 = .ok (.iload 7, 2) := by decide +kernel
theorem dX6_vine_97 : decode cX6_vine 97 = .ok (.aload_n 0, 1) := by decide +kernel
theorem dX6_vine_98 : decode cX6_vine 98 = .ok (.getfield 80, 3) := by decide +kernel
theorem dX6_vine_101 : decode cX6_vine 101 = .ok (.if_icmp .ge 37, 3) := by decide +kernel
theorem dX6_vine_104 : decode cX6_vine 104 = .ok (.aload_n 0, 1) := by decide +kernel
theorem dX6_vine_105 : decode cX6_vine 105 = .ok (.getfield 22, 3) := by decide +kernel
theorem dX6_vine_108 : decode cX6_vine 108 = .ok (.iload 7, 2) := by decide +kernel
theorem dX6_vine_110 : decode cX6_vine 110 = .ok (.aload_n 0, 1) := by decide +kernel
theorem dX6_vine_111 : decode cX6_vine 111 = .ok (.getfield 31, 3) := by decide +kernel
theorem dX6_vine_114 : decode cX6_vine 114 = .ok (.iload 7, 2) := by decide +kernel
theorem dX6_vine_116 : decode cX6_vine 116 = .ok (.iaload, 1) := by decide +kernel
theorem dX6_vine_117 : decode cX6_vine 117 = .ok (.iastore, 1) := by decide +kernel
theorem dX6_vine_118 : decode cX6_vine 118 = .ok (.aload_n 0, 1) := by decide +kernel
theorem dX6_vine_119 : decode cX6_vine 119 = .ok (.getfield 25, 3) := by decide +kernel
theorem dX6_vine_122 : decode cX6_vine 122 = .ok (.iload 7, 2) := by decide +kernel
theorem dX6_vine_124 : decode cX6_vine 124 = .ok (.aload_n 0, 1) := by decide +kernel
theorem dX6_vine_125 : decode cX6_vine 125 = .ok (.getfield 34, 3) := by decide +kernel
theorem dX6_vine_128 : decode cX6_vine 128 = .ok (.iload 7, 2) := by decide +kernel
theorem dX6_vine_130 : decode cX6_vine 130 = .ok (.iaload, 1) := by decide +kernel
theorem dX6_vine_131 : decode cX6_vine 131 = .ok (.iastore, 1) := by decide +kernel
theorem dX6_vine_132 : decode cX6_vine 132 = .ok (.iinc 7 1, 3) := by decide +kernel
theorem dX6_vine_135 : decode cX6_vine 135 = .ok (.goto (-40), 3) := by decide +kernel
theorem dX6_vine_138 : decode cX6_vine 138 = .ok (.aload_n 0, 1) := by decide +kernel
theorem dX6_vine_139 : decode cX6_vine 139 = .ok (.invokevirtual 114, 3) := by decide +kernel
theorem dX6_vine_142 : decode cX6_vine 142 = .ok (.aload_n 0, 1) := by decide +kernel
theorem dX6_vine_143 : decode cX6_vine 143 = .ok (.iconst 0, 1) := by decide +kernel
theorem dX6_vine_144 : decode cX6_vine 144 = .ok (.putfield 117, 3) := by decide +kernel
theorem dX6_vine_147 : decode cX6_vine 147 = .ok (.aload_n 0, 1) := by decide +kernel
theorem dX6_vine_148 : decode cX6_vine 148 = .ok (.iconst 0, 1) := by decide +kernel
theorem dX6_vine_149 : decode cX6_vine 149 = .ok (.putfield 120, 3) := by decide +kernel
theorem dX6_vine_152 : decode cX6_vine 152 = .ok (.aload_n 0, 1) := by decide +kernel
theorem dX6_vine_153 : decode cX6_vine 153 = .ok (.getfield 80, 3) := by decide +kernel
theorem dX6_vine_156 : decode cX6_vine 156 = .ok (.ireturn, 1) := by decide +kernel
theorem dX6_readVine_0 : decode cX6_readVine 0 = .ok (.aload_n 0, 1) := by decide +kernel
theorem dX6_readVine_1 : decode cX6_readVine 1 = .ok (.getfield 91, 3) := by decide +kernel
theorem dX6_readVine_4 : decode cX6_readVine 4 = .ok (.iload_n 1, 1) := by decide +kernel
theorem dX6_readVine_5 : decode cX6_readVine 5 = .ok (.if_icmp .ge 17, 3) := by decide +kernel
theorem dX6_readVine_8 : decode cX6_readVine 8 = .ok (.aload_n 0, 1) := by decide +kernel
theorem dX6_readVine_9 : decode cX6_readVine 9 = .ok (.getfield 16, 3) := by decide +kernel
theorem dX6_readVine_12 : decode cX6_readVine 12 = .ok (.aload_n 0, 1) := by decide +kernel
theorem dX6_readVine_13 : decode cX6_readVine 13 = .ok (.getfield 91, 3) := by decide +kernel
theorem dX6_readVine_16 : decode cX6_readVine 16 = .ok (.iaload, 1) := by decide +kernel
theorem dX6_readVine_17 : decode cX6_readVine 17 = .ok (.bipush 118, 2) := by decide +kernel
theorem dX6_readVine_19 : decode cX6_readVine 19 = .ok (.if_icmp .eq 5, 3) := by decide +kernel
theorem dX6_readVine_22 : decode cX6_readVine 22 = .ok (.iconst 0, 1) := by decide +kernel
theorem dX6_readVine_23 : decode cX6_readVine 23 = .ok (.ireturn, 1) := by decide +kernel
theorem dX6_readVine_24 : decode cX6_readVine 24 = .ok (.aload_n 0, 1) := by decide +kernel
theorem dX6_readVine_25 : decode cX6_readVine 25 = .ok (.dup, 1) := by decide +kernel
theorem dX6_readVine_26 : decode cX6_readVine 26 = .ok (.getfield 91, 3) := by decide +kernel
theorem dX6_readVine_29 : decode cX6_readVine 29 = .ok (.iconst 1, 1) := by decide +kernel
theorem dX6_readVine_30 : decode cX6_readVine 30 = .ok (.iadd, 1) := by decide +kernel
theorem dX6_readVine_31 : decode cX6_readVine 31 = .ok (.putfield 91, 3) := by decide +kernel
theorem dX6_readVine_34 : decode cX6_readVine 34 = .ok (.aload_n 0, 1) := by decide +kernel
theorem dX6_readVine_35 : decode cX6_readVine 35 = .ok (.aload_n 0, 1) := by decide +kernel
theorem dX6_readVine_36 : decode cX6_readVine 36 = .ok (.iload_n 1, 1) := by decide +kernel
theorem dX6_readVine_37 : decode cX6_readVine 37 = .ok (.iconst 2, 1) := by decide +kernel
theorem dX6_readVine_38 : decode cX6_readVine 38 = .ok (.bipush 8, 2) := by decide +kernel
theorem dX6_readVine_40 : decode cX6_readVine 40 = .ok (.invokevirtual 123, 3) := by decide +kernel
theorem dX6_readVine_43 : decode cX6_readVine 43 = .ok (.putfield 111, 3) := by decide +kernel
theorem dX6_readVine_46 : decode cX6_readVine 46 = .ok (.aload_n 0, 1) := by decide +kernel
theorem dX6_readVine_47 : decode cX6_readVine 47 = .ok (.getfield 111, 3) := by decide +kernel
theorem dX6_readVine_50 : decode cX6_readVine 50 = .ok (.bipush (-9), 2) := by decide +kernel
theorem dX6_readVine_52 : decode cX6_readVine 52 = .ok (.if_icmp .ne 5, 3) := by decide +kernel
theorem dX6_readVine_55 : decode cX6_readVine 55 = .ok (.iconst 0, 1) := by decide +kernel
theorem dX6_readVine_56 : decode cX6_readVine 56 = .ok (.ireturn, 1) := by decide +kernel
theorem dX6_readVine_57 : decode cX6_readVine 57 = .ok (.iconst 0, 1) := by decide +kernel
theorem dX6_readVine_58 : decode cX6_readVine 58 = .ok (.istore_n 2, 1) := by decide +kernel
theorem dX6_readVine_59 : decode cX6_readVine 59 = .ok (.iload_n 2, 1) := by decide +kernel
theorem dX6_readVine_60 : decode cX6_readVine 60 = .ok (.aload_n 0, 1) := by decide +kernel
theorem dX6_readVine_61 : decode cX6_readVine 61 = .ok (.getfield 111, 3) := by decide +kernel
theorem dX6_readVine_64 : decode cX6_readVine 64 = .ok (.iconst 2, 1) := by decide +kernel
theorem dX6_readVine_65 : decode cX6_readVine 65 = .ok (.isub, 1) := by decide +kernel
theorem dX6_readVine_66 : decode cX6_readVine 66 = .ok (.if_icmp .ge 40, 3) := by decide +kernel
theorem dX6_readVine_69 : decode cX6_readVine 69 = .ok (.aload_n 0, 1) := by decide +kernel
theorem dX6_readVine_70 : decode cX6_readVine 70 = .ok (.getfield 28, 3) := by decide +kernel
theorem dX6_readVine_73 : decode cX6_readVine 73 = .ok (.iload_n 2, 1) := by decide +kernel
theorem dX6_readVine_74 : decode cX6_readVine 74 = .ok (.aload_n 0, 1) := by decide +kernel
theorem dX6_readVine_75 : decode cX6_readVine 75 = .ok (.iload_n 1, 1) := by decide +kernel
theorem dX6_readVine_76 : decode cX6_readVine 76 = .ok (.iconst 0, 1) := by decide +kernel
theorem dX6_readVine_77 : decode cX6_readVine 77 = .ok (.aload_n 0, 1) := by decide +kernel
theorem dX6_readVine_78 : decode cX6_readVine 78 = .ok (.getfield 111, 3) := by decide +kernel
theorem dX6_readVine_81 : decode cX6_readVine 81 = .ok (.iconst 1, 1) := by decide +kernel
theorem dX6_readVine_82 : decode cX6_readVine 82 = .ok (.isub, 1) := by decide +kernel
theorem dX6_readVine_83 : decode cX6_readVine 83 = .ok (.invokevirtual 123, 3) := by decide +kernel
theorem dX6_readVine_86 : decode cX6_readVine 86 = .ok (.iastore, 1) := by decide +kernel
theorem dX6_readVine_87 : decode cX6_readVine 87 = .ok (.aload_n 0, 1) := by decide +kernel
theorem dX6_readVine_88 : decode cX6_readVine 88 = .ok (.getfield 28, 3) := by decide +kernel
theorem dX6_readVine_91 : decode cX6_readVine 91 = .ok (.iload_n 2, 1) := by decide +kernel
theorem dX6_readVine_92 : decode cX6_readVine 92 = .ok (.iaload, 1) := by decide +kernel
theorem dX6_readVine_93 : decode cX6_readVine 93 = .ok (.bipush (-9), 2) := by decide +kernel
theorem dX6_readVine_95 : decode cX6_readVine 95 = .ok (.if_icmp .ne 5, 3) := by decide +kernel
theorem dX6_readVine_98 : decode cX6_readVine 98 = .ok (.iconst 0, 1) := by decide +kernel
theorem dX6_readVine_99 : decode cX6_readVine 99 = .ok (.ireturn, 1) := by decide +kernel
theorem dX6_readVine_100 : decode cX6_readVine 100 = .ok (.iinc 2 1, 3) := by decide +kernel
theorem dX6_readVine_103 : decode cX6_readVine 103 = .ok (.goto (-44), 3) := by decide +kernel
theorem dX6_readVine_106 : decode cX6_readVine 106 = .ok (.iconst 0, 1) := by decide +kernel
theorem dX6_readVine_107 : decode cX6_readVine 107 = .ok (.istore_n 2, 1) := by decide +kernel
theorem dX6_readVine_108 : decode cX6_readVine 108 = .ok (.iload_n 2, 1) := by decide +kernel
theorem dX6_readVine_109 : decode cX6_readVine 109 = .ok (.aload_n 0, 1) := by decide +kernel
theorem dX6_readVine_110 : decode cX6_readVine 110 = .ok (.getfield 111, 3) := by decide +kernel
theorem dX6_readVine_113 : decode cX6_readVine 113 = .ok (.if_icmp .ge 20, 3) := by decide +kernel
theorem dX6_readVine_116 : decode cX6_readVine 116 = .ok (.aload_n 0, 1) := by decide +kernel
theorem dX6_readVine_117 : decode cX6_readVine 117 = .ok (.iload_n 1, 1) := by decide +kernel
theorem dX6_readVine_118 : decode cX6_readVine 118 = .ok (.iload_n 2, 1) := by decide +kernel
theorem dX6_readVine_119 : decode cX6_readVine 119 = .ok (.invokevirtual 127, 3) := by decide +kernel
theorem dX6_readVine_122 : decode cX6_readVine 122 = .ok (.ifCond .ne 5, 3) := by decide +kernel
theorem dX6_readVine_125 : decode cX6_readVine 125 = .ok (.iconst 0, 1) := by decide +kernel
theorem dX6_readVine_126 : decode cX6_readVine 126 = .ok (.ireturn, 1) := by decide +kernel
theorem dX6_readVine_127 : decode cX6_readVine 127 = .ok (.iinc 2 1, 3) := by decide +kernel
theorem dX6_readVine_130 : decode cX6_readVine 130 = .ok (.goto (-22), 3) := by decide +kernel
theorem dX6_readVine_133 : decode cX6_readVine 133 = .ok (.aload_n 0, 1) := by decide +kernel
theorem dX6_readVine_134 : decode cX6_readVine 134 = .ok (.getfield 91, 3) := by decide +kernel
theorem dX6_readVine_137 : decode cX6_readVine 137 = .ok (.iload_n 1, 1) := by decide +kernel
theorem dX6_readVine_138 : decode cX6_readVine 138 = .ok (.if_icmp .ne 7, 3) := by decide +kernel
theorem dX6_readVine_141 : decode cX6_readVine 141 = .ok (.iconst 1, 1) := by decide +kernel
theorem dX6_readVine_142 : decode cX6_readVine 142 = .ok (.goto 4, 3) := by decide +kernel
theorem dX6_readVine_145 : decode cX6_readVine 145 = .ok (.iconst 0, 1) := by decide +kernel
theorem dX6_readVine_146 : decode cX6_readVine 146 = .ok (.ireturn, 1) := by decide +kernel
theorem dX6_readPost_0 : decode cX6_readPost 0 = .ok (.aload_n 0, 1) := by decide +kernel
theorem dX6_readPost_1 : decode cX6_readPost 1 = .ok (.getfield 91, 3) := by decide +kernel
theorem dX6_readPost_4 : decode cX6_readPost 4 = .ok (.iload_n 1, 1) := by decide +kernel
theorem dX6_readPost_5 : decode cX6_readPost 5 = .ok (.if_icmp .ge 15, 3) := by decide +kernel
theorem dX6_readPost_8 : decode cX6_readPost 8 = .ok (.aload_n 0, 1) := by decide +kernel
theorem dX6_readPost_9 : decode cX6_readPost 9 = .ok (.getfield 16, 3) := by decide +kernel
theorem dX6_readPost_12 : decode cX6_readPost 12 = .ok (.aload_n 0, 1) := by decide +kernel
theorem dX6_readPost_13 : decode cX6_readPost 13 = .ok (.getfield 91, 3) := by decide +kernel
theorem dX6_readPost_16 : decode cX6_readPost 16 = .ok (.iaload, 1) := by decide +kernel
theorem dX6_readPost_17 : decode cX6_readPost 17 = .ok (.goto 4, 3) := by decide +kernel
theorem dX6_readPost_20 : decode cX6_readPost 20 = .ok (.iconst 0, 1) := by decide +kernel
theorem dX6_readPost_21 : decode cX6_readPost 21 = .ok (.istore_n 3, 1) := by decide +kernel
theorem dX6_readPost_22 : decode cX6_readPost 22 = .ok (.aload_n 0, 1) := by decide +kernel
theorem dX6_readPost_23 : decode cX6_readPost 23 = .ok (.getfield 31, 3) := by decide +kernel
theorem dX6_readPost_26 : decode cX6_readPost 26 = .ok (.iload_n 2, 1) := by decide +kernel
theorem dX6_readPost_27 : decode cX6_readPost 27 = .ok (.iload_n 3, 1) := by decide +kernel
theorem dX6_readPost_28 : decode cX6_readPost 28 = .ok (.bipush 112, 2) := by decide +kernel
theorem dX6_readPost_30 : decode cX6_readPost 30 = .ok (.if_icmp .ne 7, 3) := by decide +kernel
theorem dX6_readPost_33 : decode cX6_readPost 33 = .ok (.iconst 0, 1) := by decide +kernel
theorem dX6_readPost_34 : decode cX6_readPost 34 = .ok (.goto 25, 3) := by decide +kernel
theorem dX6_readPost_37 : decode cX6_readPost 37 = .ok (.iload_n 3, 1) := by decide +kernel
theorem dX6_readPost_38 : decode cX6_readPost 38 = .ok (.bipush 98, 2) := by decide +kernel
theorem dX6_readPost_40 : decode cX6_readPost 40 = .ok (.if_icmp .ne 7, 3) := by decide +kernel
theorem dX6_readPost_43 : decode cX6_readPost 43 = .ok (.iconst 1, 1) := by decide +kernel
theorem dX6_readPost_44 : decode cX6_readPost 44 = .ok (.goto 15, 3) := by decide +kernel
theorem dX6_readPost_47 : decode cX6_readPost 47 = .ok (.iload_n 3, 1) := by decide +kernel
theorem dX6_readPost_48 : decode cX6_readPost 48 = .ok (.bipush 100, 2) := by decide +kernel
theorem dX6_readPost_50 : decode cX6_readPost 50 = .ok (.if_icmp .ne 7, 3) := by decide +kernel
theorem dX6_readPost_53 : decode cX6_readPost 53 = .ok (.iconst 2, 1) := by decide +kernel
theorem dX6_readPost_54 : decode cX6_readPost 54 = .ok (.goto 5, 3) := by decide +kernel
theorem dX6_readPost_57 : decode cX6_readPost 57 = .ok (.bipush (-9), 2) := by decide +kernel
theorem dX6_readPost_59 : decode cX6_readPost 59 = .ok (.iastore, 1) := by decide +kernel
theorem dX6_readPost_60 : decode cX6_readPost 60 = .ok (.aload_n 0, 1) := by decide +kernel
theorem dX6_readPost_61 : decode cX6_readPost 61 = .ok (.getfield 31, 3) := by decide +kernel
theorem dX6_readPost_64 : decode cX6_readPost 64 = .ok (.iload_n 2, 1) := by decide +kernel
theorem dX6_readPost_65 : decode cX6_readPost 65 = .ok (.iaload, 1) := by decide +kernel
theorem dX6_readPost_66 : decode cX6_readPost 66 = .ok (.bipush (-9), 2) := by decide +kernel
theorem dX6_readPost_68 : decode cX6_readPost 68 = .ok (.if_icmp .ne 5, 3) := by decide +kernel
theorem dX6_readPost_71 : decode cX6_readPost 71 = .ok (.iconst 0, 1) := by decide +kernel
theorem dX6_readPost_72 : decode cX6_readPost 72 = .ok (.ireturn, 1) := by decide +kernel
theorem dX6_readPost_73 : decode cX6_readPost 73 = .ok (.aload_n 0, 1) := by decide +kernel
theorem dX6_readPost_74 : decode cX6_readPost 74 = .ok (.dup, 1) := by decide +kernel
theorem dX6_readPost_75 : decode cX6_readPost 75 = .ok (.getfield 91, 3) := by decide +kernel
theorem dX6_readPost_78 : decode cX6_readPost 78 = .ok (.iconst 1, 1) := by decide +kernel
theorem dX6_readPost_79 : decode cX6_readPost 79 = .ok (.iadd, 1) := by decide +kernel
theorem dX6_readPost_80 : decode cX6_readPost 80 = .ok (.putfield 91, 3) := by decide +kernel
theorem dX6_readPost_83 : decode cX6_readPost 83 = .ok (.aload_n 0, 1) := by decide +kernel
theorem dX6_readPost_84 : decode cX6_readPost 84 = .ok (.getfield 34, 3) := by decide +kernel
theorem dX6_readPost_87 : decode cX6_readPost 87 = .ok (.iload_n 2, 1) := by decide +kernel
theorem dX6_readPost_88 : decode cX6_readPost 88 = .ok (.aload_n 0, 1) := by decide +kernel
theorem dX6_readPost_89 : decode cX6_readPost 89 = .ok (.iload_n 1, 1) := by decide +kernel
theorem dX6_readPost_90 : decode cX6_readPost 90 = .ok (.iconst 0, 1) := by decide +kernel
theorem dX6_readPost_91 : decode cX6_readPost 91 = .ok (.bipush 9, 2) := by decide +kernel
theorem dX6_readPost_93 : decode cX6_readPost 93 = .ok (.invokevirtual 123, 3) := by decide +kernel
theorem dX6_readPost_96 : decode cX6_readPost 96 = .ok (.iastore, 1) := by decide +kernel
theorem dX6_readPost_97 : decode cX6_readPost 97 = .ok (.aload_n 0, 1) := by decide +kernel
theorem dX6_readPost_98 : decode cX6_readPost 98 = .ok (.getfield 34, 3) := by decide +kernel
theorem dX6_readPost_101 : decode cX6_readPost 101 = .ok (.iload_n 2, 1) := by decide +kernel
theorem dX6_readPost_102 : decode cX6_readPost 102 = .ok (.iaload, 1) := by decide +kernel
theorem dX6_readPost_103 : decode cX6_readPost 103 = .ok (.bipush (-9), 2) := by decide +kernel
theorem dX6_readPost_105 : decode cX6_readPost 105 = .ok (.if_icmp .eq 7, 3) := by decide +kernel
theorem dX6_readPost_108 : decode cX6_readPost 108 = .ok (.iconst 1, 1) := by decide +kernel
theorem dX6_readPost_109 : decode cX6_readPost 109 = .ok (.goto 4, 3) := by decide +kernel
theorem dX6_readPost_112 : decode cX6_readPost 112 = .ok (.iconst 0, 1) := by decide +kernel
theorem dX6_readPost_113 : decode cX6_readPost 113 = .ok (.ireturn, 1) := by decide +kernel
theorem dX6_join_0 : decode cX6_join 0 = .ok (.aload_n 0, 1) := by decide +kernel
theorem dX6_join_1 : decode cX6_join 1 = .ok (.getfield 19, 3) := by decide +kernel
theorem dX6_join_4 : decode cX6_join 4 = .ok (.iload_n 1, 1) := by decide +kernel
theorem dX6_join_5 : decode cX6_join 5 = .ok (.dup2, 1) := by decide +kernel
theorem dX6_join_6 : decode cX6_join 6 = .ok (.iaload, 1) := by decide +kernel
theorem dX6_join_7 : decode cX6_join 7 = .ok (.iconst 1, 1) := by decide +kernel
theorem dX6_join_8 : decode cX6_join 8 = .ok (.iload_n 2, 1) := by decide +kernel
theorem dX6_join_9 : decode cX6_join 9 = .ok (.ishl, 1) := by decide +kernel
theorem dX6_join_10 : decode cX6_join 10 = .ok (.ior, 1) := by decide +kernel
theorem dX6_join_11 : decode cX6_join 11 = .ok (.iastore, 1) := by decide +kernel
theorem dX6_join_12 : decode cX6_join 12 = .ok (.aload_n 0, 1) := by decide +kernel
theorem dX6_join_13 : decode cX6_join 13 = .ok (.getfield 19, 3) := by decide +kernel
theorem dX6_join_16 : decode cX6_join 16 = .ok (.iload_n 2, 1) := by decide +kernel
theorem dX6_join_17 : decode cX6_join 17 = .ok (.dup2, 1) := by decide +kernel
theorem dX6_join_18 : decode cX6_join 18 = .ok (.iaload, 1) := by decide +kernel
theorem dX6_join_19 : decode cX6_join 19 = .ok (.iconst 1, 1) := by decide +kernel
theorem dX6_join_20 : decode cX6_join 20 = .ok (.iload_n 1, 1) := by decide +kernel
theorem dX6_join_21 : decode cX6_join 21 = .ok (.ishl, 1) := by decide +kernel
theorem dX6_join_22 : decode cX6_join 22 = .ok (.ior, 1) := by decide +kernel
theorem dX6_join_23 : decode cX6_join 23 = .ok (.iastore, 1) := by decide +kernel
theorem dX6_join_24 : decode cX6_join 24 = .ok (.return_, 1) := by decide +kernel
theorem dX6_unjoin_0 : decode cX6_unjoin 0 = .ok (.aload_n 0, 1) := by decide +kernel
theorem dX6_unjoin_1 : decode cX6_unjoin 1 = .ok (.getfield 19, 3) := by decide +kernel
theorem dX6_unjoin_4 : decode cX6_unjoin 4 = .ok (.iload_n 1, 1) := by decide +kernel
theorem dX6_unjoin_5 : decode cX6_unjoin 5 = .ok (.dup2, 1) := by decide +kernel
theorem dX6_unjoin_6 : decode cX6_unjoin 6 = .ok (.iaload, 1) := by decide +kernel
theorem dX6_unjoin_7 : decode cX6_unjoin 7 = .ok (.iconst 1, 1) := by decide +kernel
theorem dX6_unjoin_8 : decode cX6_unjoin 8 = .ok (.iload_n 2, 1) := by decide +kernel
theorem dX6_unjoin_9 : decode cX6_unjoin 9 = .ok (.ishl, 1) := by decide +kernel
theorem dX6_unjoin_10 : decode cX6_unjoin 10 = .ok (.iconst (-1), 1) := by decide +kernel
theorem dX6_unjoin_11 : decode cX6_unjoin 11 = .ok (.ixor, 1) := by decide +kernel
theorem dX6_unjoin_12 : decode cX6_unjoin 12 = .ok (.iand, 1) := by decide +kernel
theorem dX6_unjoin_13 : decode cX6_unjoin 13 = .ok (.iastore, 1) := by decide +kernel
theorem dX6_unjoin_14 : decode cX6_unjoin 14 = .ok (.aload_n 0, 1) := by decide +kernel
theorem dX6_unjoin_15 : decode cX6_unjoin 15 = .ok (.getfield 19, 3) := by decide +kernel
theorem dX6_unjoin_18 : decode cX6_unjoin 18 = .ok (.iload_n 2, 1) := by decide +kernel
theorem dX6_unjoin_19 : decode cX6_unjoin 19 = .ok (.dup2, 1) := by decide +kernel
theorem dX6_unjoin_20 : decode cX6_unjoin 20 = .ok (.iaload, 1) := by decide +kernel
theorem dX6_unjoin_21 : decode cX6_unjoin 21 = .ok (.iconst 1, 1) := by decide +kernel
theorem dX6_unjoin_22 : decode cX6_unjoin 22 = .ok (.iload_n 1, 1) := by decide +kernel
theorem dX6_unjoin_23 : decode cX6_unjoin 23 = .ok (.ishl, 1) := by decide +kernel
theorem dX6_unjoin_24 : decode cX6_unjoin 24 = .ok (.iconst (-1), 1) := by decide +kernel
theorem dX6_unjoin_25 : decode cX6_unjoin 25 = .ok (.ixor, 1) := by decide +kernel
theorem dX6_unjoin_26 : decode cX6_unjoin 26 = .ok (.iand, 1) := by decide +kernel
theorem dX6_unjoin_27 : decode cX6_unjoin 27 = .ok (.iastore, 1) := by decide +kernel
theorem dX6_unjoin_28 : decode cX6_unjoin 28 = .ok (.return_, 1) := by decide +kernel
theorem dX6_growVine_0 : decode cX6_growVine 0 = .ok (.iconst 0, 1) := by decide +kernel
theorem dX6_growVine_1 : decode cX6_growVine 1 = .ok (.istore_n 1, 1) := by decide +kernel
theorem dX6_growVine_2 : decode cX6_growVine 2 = .ok (.iload_n 1, 1) := by decide +kernel
theorem dX6_growVine_3 : decode cX6_growVine 3 = .ok (.bipush 8, 2) := by decide +kernel
theorem dX6_growVine_5 : decode cX6_growVine 5 = .ok (.if_icmp .ge 16, 3) := by decide +kernel
theorem dX6_growVine_8 : decode cX6_growVine 8 = .ok (.aload_n 0, 1) := by decide +kernel
theorem dX6_growVine_9 : decode cX6_growVine 9 = .ok (.getfield 19, 3) := by decide +kernel
theorem dX6_growVine_12 : decode cX6_growVine 12 = .ok (.iload_n 1, 1) := by decide +kernel
theorem dX6_growVine_13 : decode cX6_growVine 13 = .ok (.iconst 0, 1) := by decide +kernel
theorem dX6_growVine_14 : decode cX6_growVine 14 = .ok (.iastore, 1) := by decide +kernel
theorem dX6_growVine_15 : decode cX6_growVine 15 = .ok (.iinc 1 1, 3) := by decide +kernel
theorem dX6_growVine_18 : decode cX6_growVine 18 = .ok (.goto (-16), 3) := by decide +kernel
theorem dX6_growVine_21 : decode cX6_growVine 21 = .ok (.iconst 1, 1) := by decide +kernel
theorem dX6_growVine_22 : decode cX6_growVine 22 = .ok (.aload_n 0, 1) := by decide +kernel
theorem dX6_growVine_23 : decode cX6_growVine 23 = .ok (.getfield 80, 3) := by decide +kernel
theorem dX6_growVine_26 : decode cX6_growVine 26 = .ok (.ishl, 1) := by decide +kernel
theorem dX6_growVine_27 : decode cX6_growVine 27 = .ok (.iconst 1, 1) := by decide +kernel
theorem dX6_growVine_28 : decode cX6_growVine 28 = .ok (.isub, 1) := by decide +kernel
theorem dX6_growVine_29 : decode cX6_growVine 29 = .ok (.istore_n 1, 1) := by decide +kernel
theorem dX6_growVine_30 : decode cX6_growVine 30 = .ok (.iconst 0, 1) := by decide +kernel
theorem dX6_growVine_31 : decode cX6_growVine 31 = .ok (.istore_n 2, 1) := by decide +kernel
theorem dX6_growVine_32 : decode cX6_growVine 32 = .ok (.iload_n 2, 1) := by decide +kernel
theorem dX6_growVine_33 : decode cX6_growVine 33 = .ok (.aload_n 0, 1) := by decide +kernel
theorem dX6_growVine_34 : decode cX6_growVine 34 = .ok (.getfield 80, 3) := by decide +kernel
theorem dX6_growVine_37 : decode cX6_growVine 37 = .ok (.iconst 2, 1) := by decide +kernel
theorem dX6_growVine_38 : decode cX6_growVine 38 = .ok (.isub, 1) := by decide +kernel
theorem dX6_growVine_39 : decode cX6_growVine 39 = .ok (.if_icmp .ge 74, 3) := by decide +kernel
theorem dX6_growVine_42 : decode cX6_growVine 42 = .ok (.iconst 0, 1) := by decide +kernel
theorem dX6_growVine_43 : decode cX6_growVine 43 = .ok (.istore_n 3, 1) := by decide +kernel
theorem dX6_growVine_44 : decode cX6_growVine 44 = .ok (.iload_n 2, 1) := by decide +kernel
theorem dX6_growVine_45 : decode cX6_growVine 45 = .ok (.istore 4, 2) := by decide +kernel
theorem dX6_growVine_47 : decode cX6_growVine 47 = .ok (.iload 4, 2) := by decide +kernel
theorem dX6_growVine_49 : decode cX6_growVine 49 = .ok (.aload_n 0, 1) := by decide +kernel
theorem dX6_growVine_50 : decode cX6_growVine 50 = .ok (.getfield 80, 3) := by decide +kernel
theorem dX6_growVine_53 : decode cX6_growVine 53 = .ok (.iconst 2, 1) := by decide +kernel
theorem dX6_growVine_54 : decode cX6_growVine 54 = .ok (.isub, 1) := by decide +kernel
theorem dX6_growVine_55 : decode cX6_growVine 55 = .ok (.if_icmp .ge 21, 3) := by decide +kernel
theorem dX6_growVine_58 : decode cX6_growVine 58 = .ok (.iload_n 3, 1) := by decide +kernel
theorem dX6_growVine_59 : decode cX6_growVine 59 = .ok (.iconst 1, 1) := by decide +kernel
theorem dX6_growVine_60 : decode cX6_growVine 60 = .ok (.aload_n 0, 1) := by decide +kernel
theorem dX6_growVine_61 : decode cX6_growVine 61 = .ok (.getfield 28, 3) := by decide +kernel
theorem dX6_growVine_64 : decode cX6_growVine 64 = .ok (.iload 4, 2) := by decide +kernel
theorem dX6_growVine_66 : decode cX6_growVine 66 = .ok (.iaload, 1) := by decide +kernel
theorem dX6_growVine_67 : decode cX6_growVine 67 = .ok (.ishl, 1) := by decide +kernel
theorem dX6_growVine_68 : decode cX6_growVine 68 = .ok (.ior, 1) := by decide +kernel
theorem dX6_growVine_69 : decode cX6_growVine 69 = .ok (.istore_n 3, 1) := by decide +kernel
theorem dX6_growVine_70 : decode cX6_growVine 70 = .ok (.iinc 4 1, 3) := by decide +kernel
theorem dX6_growVine_73 : decode cX6_growVine 73 = .ok (.goto (-26), 3) := by decide +kernel
theorem dX6_growVine_76 : decode cX6_growVine 76 = .ok (.iload_n 1, 1) := by decide +kernel
theorem dX6_growVine_77 : decode cX6_growVine 77 = .ok (.iload_n 3, 1) := by decide +kernel
theorem dX6_growVine_78 : decode cX6_growVine 78 = .ok (.iconst (-1), 1) := by decide +kernel
theorem dX6_growVine_79 : decode cX6_growVine 79 = .ok (.ixor, 1) := by decide +kernel
theorem dX6_growVine_80 : decode cX6_growVine 80 = .ok (.iand, 1) := by decide +kernel
theorem dX6_growVine_81 : decode cX6_growVine 81 = .ok (.invokestatic 130, 3) := by decide +kernel
theorem dX6_growVine_84 : decode cX6_growVine 84 = .ok (.istore 4, 2) := by decide +kernel
theorem dX6_growVine_86 : decode cX6_growVine 86 = .ok (.aload_n 0, 1) := by decide +kernel
theorem dX6_growVine_87 : decode cX6_growVine 87 = .ok (.iload 4, 2) := by decide +kernel
theorem dX6_growVine_89 : decode cX6_growVine 89 = .ok (.aload_n 0, 1) := by decide +kernel
theorem dX6_growVine_90 : decode cX6_growVine 90 = .ok (.getfield 28, 3) := by decide +kernel
theorem dX6_growVine_93 : decode cX6_growVine 93 = .ok (.iload_n 2, 1) := by decide +kernel
theorem dX6_growVine_94 : decode cX6_growVine 94 = .ok (.iaload, 1) := by decide +kernel
theorem dX6_growVine_95 : decode cX6_growVine 95 = .ok (.invokevirtual 133, 3) := by decide +kernel
theorem dX6_growVine_98 : decode cX6_growVine 98 = .ok (.iload_n 1, 1) := by decide +kernel
theorem dX6_growVine_99 : decode cX6_growVine 99 = .ok (.iconst 1, 1) := by decide +kernel
theorem dX6_growVine_100 : decode cX6_growVine 100 = .ok (.iload 4, 2) := by decide +kernel
theorem dX6_growVine_102 : decode cX6_growVine 102 = .ok (.ishl, 1) := by decide +kernel
theorem dX6_growVine_103 : decode cX6_growVine 103 = .ok (.iconst (-1), 1) := by decide +kernel
theorem dX6_growVine_104 : decode cX6_growVine 104 = .ok (.ixor, 1) := by decide +kernel
theorem dX6_growVine_105 : decode cX6_growVine 105 = .ok (.iand, 1) := by decide +kernel
theorem dX6_growVine_106 : decode cX6_growVine 106 = .ok (.istore_n 1, 1) := by decide +kernel
theorem dX6_growVine_107 : decode cX6_growVine 107 = .ok (.iinc 2 1, 3) := by decide +kernel
theorem dX6_growVine_110 : decode cX6_growVine 110 = .ok (.goto (-78), 3) := by decide +kernel
theorem dX6_growVine_113 : decode cX6_growVine 113 = .ok (.iload_n 1, 1) := by decide +kernel
theorem dX6_growVine_114 : decode cX6_growVine 114 = .ok (.invokestatic 130, 3) := by decide +kernel
theorem dX6_growVine_117 : decode cX6_growVine 117 = .ok (.istore_n 2, 1) := by decide +kernel
theorem dX6_growVine_118 : decode cX6_growVine 118 = .ok (.aload_n 0, 1) := by decide +kernel
theorem dX6_growVine_119 : decode cX6_growVine 119 = .ok (.iload_n 2, 1) := by decide +kernel
theorem dX6_growVine_120 : decode cX6_growVine 120 = .ok (.iload_n 1, 1) := by decide +kernel
theorem dX6_growVine_121 : decode cX6_growVine 121 = .ok (.iconst 1, 1) := by decide +kernel
theorem dX6_growVine_122 : decode cX6_growVine 122 = .ok (.iload_n 2, 1) := by decide +kernel
theorem dX6_growVine_123 : decode cX6_growVine 123 = .ok (.ishl, 1) := by decide +kernel
theorem dX6_growVine_124 : decode cX6_growVine 124 = .ok (.iconst (-1), 1) := by decide +kernel
theorem dX6_growVine_125 : decode cX6_growVine 125 = .ok (.ixor, 1) := by decide +kernel
theorem dX6_growVine_126 : decode cX6_growVine 126 = .ok (.iand, 1) := by decide +kernel
theorem dX6_growVine_127 : decode cX6_growVine 127 = .ok (.invokestatic 130, 3) := by decide +kernel
theorem dX6_growVine_130 : decode cX6_growVine 130 = .ok (.invokevirtual 133, 3) := by decide +kernel
theorem dX6_growVine_133 : decode cX6_growVine 133 = .ok (.return_, 1) := by decide +kernel
theorem dX6_worthOf_0 : decode cX6_worthOf 0 = .ok (.aload_n 0, 1) := by decide +kernel
theorem dX6_worthOf_1 : decode cX6_worthOf 1 = .ok (.getfield 22, 3) := by decide +kernel
theorem dX6_worthOf_4 : decode cX6_worthOf 4 = .ok (.iload_n 1, 1) := by decide +kernel
theorem dX6_worthOf_5 : decode cX6_worthOf 5 = .ok (.iaload, 1) := by decide +kernel
theorem dX6_worthOf_6 : decode cX6_worthOf 6 = .ok (.ifCond .ne 12, 3) := by decide +kernel
theorem dX6_worthOf_9 : decode cX6_worthOf 9 = .ok (.aload_n 0, 1) := by decide +kernel
theorem dX6_worthOf_10 : decode cX6_worthOf 10 = .ok (.getfield 25, 3) := by decide +kernel
theorem dX6_worthOf_13 : decode cX6_worthOf 13 = .ok (.iload_n 1, 1) := by decide +kernel
theorem dX6_worthOf_14 : decode cX6_worthOf 14 = .ok (.iaload, 1) := by decide +kernel
theorem dX6_worthOf_15 : decode cX6_worthOf 15 = .ok (.goto 32, 3) := by decide +kernel
theorem dX6_worthOf_18 : decode cX6_worthOf 18 = .ok (.aload_n 0, 1) := by decide +kernel
theorem dX6_worthOf_19 : decode cX6_worthOf 19 = .ok (.getfield 22, 3) := by decide +kernel
theorem dX6_worthOf_22 : decode cX6_worthOf 22 = .ok (.iload_n 1, 1) := by decide +kernel
theorem dX6_worthOf_23 : decode cX6_worthOf 23 = .ok (.iaload, 1) := by decide +kernel
theorem dX6_worthOf_24 : decode cX6_worthOf 24 = .ok (.iconst 1, 1) := by decide +kernel
theorem dX6_worthOf_25 : decode cX6_worthOf 25 = .ok (.if_icmp .ne 14, 3) := by decide +kernel
theorem dX6_worthOf_28 : decode cX6_worthOf 28 = .ok (.aload_n 0, 1) := by decide +kernel
theorem dX6_worthOf_29 : decode cX6_worthOf 29 = .ok (.getfield 25, 3) := by decide +kernel
theorem dX6_worthOf_32 : decode cX6_worthOf 32 = .ok (.iload_n 1, 1) := by decide +kernel
theorem dX6_worthOf_33 : decode cX6_worthOf 33 = .ok (.iaload, 1) := by decide +kernel
theorem dX6_worthOf_34 : decode cX6_worthOf 34 = .ok (.iconst 1, 1) := by decide +kernel
theorem dX6_worthOf_35 : decode cX6_worthOf 35 = .ok (.iadd, 1) := by decide +kernel
theorem dX6_worthOf_36 : decode cX6_worthOf 36 = .ok (.goto 11, 3) := by decide +kernel
theorem dX6_worthOf_39 : decode cX6_worthOf 39 = .ok (.iconst 2, 1) := by decide +kernel
theorem dX6_worthOf_40 : decode cX6_worthOf 40 = .ok (.aload_n 0, 1) := by decide +kernel
theorem dX6_worthOf_41 : decode cX6_worthOf 41 = .ok (.getfield 25, 3) := by decide +kernel
theorem dX6_worthOf_44 : decode cX6_worthOf 44 = .ok (.iload_n 1, 1) := by decide +kernel
theorem dX6_worthOf_45 : decode cX6_worthOf 45 = .ok (.iaload, 1) := by decide +kernel
theorem dX6_worthOf_46 : decode cX6_worthOf 46 = .ok (.imul, 1) := by decide +kernel
theorem dX6_worthOf_47 : decode cX6_worthOf 47 = .ok (.ireturn, 1) := by decide +kernel
theorem dX6_worthOfSet_0 : decode cX6_worthOfSet 0 = .ok (.iconst 0, 1) := by decide +kernel
theorem dX6_worthOfSet_1 : decode cX6_worthOfSet 1 = .ok (.istore_n 2, 1) := by decide +kernel
theorem dX6_worthOfSet_2 : decode cX6_worthOfSet 2 = .ok (.iconst 0, 1) := by decide +kernel
theorem dX6_worthOfSet_3 : decode cX6_worthOfSet 3 = .ok (.istore_n 3, 1) := by decide +kernel
theorem dX6_worthOfSet_4 : decode cX6_worthOfSet 4 = .ok (.iload_n 3, 1) := by decide +kernel
theorem dX6_worthOfSet_5 : decode cX6_worthOfSet 5 = .ok (.aload_n 0, 1) := by decide +kernel
theorem dX6_worthOfSet_6 : decode cX6_worthOfSet 6 = .ok (.getfield 80, 3) := by decide +kernel
theorem dX6_worthOfSet_9 : decode cX6_worthOfSet 9 = .ok (.if_icmp .ge 29, 3) := by decide +kernel
theorem dX6_worthOfSet_12 : decode cX6_worthOfSet 12 = .ok (.iload_n 2, 1) := by decide +kernel
theorem dX6_worthOfSet_13 : decode cX6_worthOfSet 13 = .ok (.iload_n 1, 1) := by decide +kernel
theorem dX6_worthOfSet_14 : decode cX6_worthOfSet 14 = .ok (.iload_n 3, 1) := by decide +kernel
theorem dX6_worthOfSet_15 : decode cX6_worthOfSet 15 = .ok (.invokestatic 87, 3) := by decide +kernel
theorem dX6_worthOfSet_18 : decode cX6_worthOfSet 18 = .ok (.ifCond .eq 11, 3) := by decide +kernel
theorem dX6_worthOfSet_21 : decode cX6_worthOfSet 21 = .ok (.aload_n 0, 1) := by decide +kernel
theorem dX6_worthOfSet_22 : decode cX6_worthOfSet 22 = .ok (.iload_n 3, 1) := by decide +kernel
theorem dX6_worthOfSet_23 : decode cX6_worthOfSet 23 = .ok (.invokevirtual 137, 3) := by decide +kernel
theorem dX6_worthOfSet_26 : decode cX6_worthOfSet 26 = .ok (.goto 4, 3) := by decide +kernel
theorem dX6_worthOfSet_29 : decode cX6_worthOfSet 29 = .ok (.iconst 0, 1) := by decide +kernel
theorem dX6_worthOfSet_30 : decode cX6_worthOfSet 30 = .ok (.iadd, 1) := by decide +kernel
theorem dX6_worthOfSet_31 : decode cX6_worthOfSet 31 = .ok (.istore_n 2, 1) := by decide +kernel
theorem dX6_worthOfSet_32 : decode cX6_worthOfSet 32 = .ok (.iinc 3 1, 3) := by decide +kernel
theorem dX6_worthOfSet_35 : decode cX6_worthOfSet 35 = .ok (.goto (-31), 3) := by decide +kernel
theorem dX6_worthOfSet_38 : decode cX6_worthOfSet 38 = .ok (.iload_n 2, 1) := by decide +kernel
theorem dX6_worthOfSet_39 : decode cX6_worthOfSet 39 = .ok (.ireturn, 1) := by decide +kernel
theorem dX6_ends_0 : decode cX6_ends 0 = .ok (.iconst 0, 1) := by decide +kernel
theorem dX6_ends_1 : decode cX6_ends 1 = .ok (.istore_n 1, 1) := by decide +kernel
theorem dX6_ends_2 : decode cX6_ends 2 = .ok (.iconst 0, 1) := by decide +kernel
theorem dX6_ends_3 : decode cX6_ends 3 = .ok (.istore_n 2, 1) := by decide +kernel
theorem dX6_ends_4 : decode cX6_ends 4 = .ok (.iload_n 2, 1) := by decide +kernel
theorem dX6_ends_5 : decode cX6_ends 5 = .ok (.aload_n 0, 1) := by decide +kernel
theorem dX6_ends_6 : decode cX6_ends 6 = .ok (.getfield 80, 3) := by decide +kernel
theorem dX6_ends_9 : decode cX6_ends 9 = .ok (.if_icmp .ge 32, 3) := by decide +kernel
theorem dX6_ends_12 : decode cX6_ends 12 = .ok (.iload_n 1, 1) := by decide +kernel
theorem dX6_ends_13 : decode cX6_ends 13 = .ok (.aload_n 0, 1) := by decide +kernel
theorem dX6_ends_14 : decode cX6_ends 14 = .ok (.getfield 19, 3) := by decide +kernel
theorem dX6_ends_17 : decode cX6_ends 17 = .ok (.iload_n 2, 1) := by decide +kernel
theorem dX6_ends_18 : decode cX6_ends 18 = .ok (.iaload, 1) := by decide +kernel
theorem dX6_ends_19 : decode cX6_ends 19 = .ok (.invokestatic 140, 3) := by decide +kernel
theorem dX6_ends_22 : decode cX6_ends 22 = .ok (.iconst 1, 1) := by decide +kernel
theorem dX6_ends_23 : decode cX6_ends 23 = .ok (.if_icmp .ne 9, 3) := by decide +kernel
theorem dX6_ends_26 : decode cX6_ends 26 = .ok (.iconst 1, 1) := by decide +kernel
theorem dX6_ends_27 : decode cX6_ends 27 = .ok (.iload_n 2, 1) := by decide +kernel
theorem dX6_ends_28 : decode cX6_ends 28 = .ok (.ishl, 1) := by decide +kernel
theorem dX6_ends_29 : decode cX6_ends 29 = .ok (.goto 4, 3) := by decide +kernel
theorem dX6_ends_32 : decode cX6_ends 32 = .ok (.iconst 0, 1) := by decide +kernel
theorem dX6_ends_33 : decode cX6_ends 33 = .ok (.ior, 1) := by decide +kernel
theorem dX6_ends_34 : decode cX6_ends 34 = .ok (.istore_n 1, 1) := by decide +kernel
theorem dX6_ends_35 : decode cX6_ends 35 = .ok (.iinc 2 1, 3) := by decide +kernel
theorem dX6_ends_38 : decode cX6_ends 38 = .ok (.goto (-34), 3) := by decide +kernel
theorem dX6_ends_41 : decode cX6_ends 41 = .ok (.iload_n 1, 1) := by decide +kernel
theorem dX6_ends_42 : decode cX6_ends 42 = .ok (.ireturn, 1) := by decide +kernel
theorem dX6_findFars_0 : decode cX6_findFars 0 = .ok (.iconst 0, 1) := by decide +kernel
theorem dX6_findFars_1 : decode cX6_findFars 1 = .ok (.istore_n 1, 1) := by decide +kernel
theorem dX6_findFars_2 : decode cX6_findFars 2 = .ok (.iload_n 1, 1) := by decide +kernel
theorem dX6_findFars_3 : decode cX6_findFars 3 = .ok (.aload_n 0, 1) := by decide +kernel
theorem dX6_findFars_4 : decode cX6_findFars 4 = .ok (.getfield 80, 3) := by decide +kernel
theorem dX6_findFars_7 : decode cX6_findFars 7 = .ok (.if_icmp .ge 95, 3) := by decide +kernel
theorem dX6_findFars_10 : decode cX6_findFars 10 = .ok (.iconst 0, 1) := by decide +kernel
theorem dX6_findFars_11 : decode cX6_findFars 11 = .ok (.istore_n 2, 1) := by decide +kernel
theorem dX6_findFars_12 : decode cX6_findFars 12 = .ok (.iconst 1, 1) := by decide +kernel
theorem dX6_findFars_13 : decode cX6_findFars 13 = .ok (.iload_n 1, 1) := by decide +kernel
theorem dX6_findFars_14 : decode cX6_findFars 14 = .ok (.ishl, 1) := by decide +kernel
theorem dX6_findFars_15 : decode cX6_findFars 15 = .ok (.istore_n 3, 1) := by decide +kernel
theorem dX6_findFars_16 : decode cX6_findFars 16 = .ok (.iconst 0, 1) := by decide +kernel
theorem dX6_findFars_17 : decode cX6_findFars 17 = .ok (.istore 4, 2) := by decide +kernel
theorem dX6_findFars_19 : decode cX6_findFars 19 = .ok (.iload_n 3, 1) := by decide +kernel
theorem dX6_findFars_20 : decode cX6_findFars 20 = .ok (.ifCond .eq 76, 3) := by decide +kernel
theorem dX6_findFars_23 : decode cX6_findFars 23 = .ok (.iconst 0, 1) := by decide +kernel
theorem dX6_findFars_24 : decode cX6_findFars 24 = .ok (.istore 5, 2) := by decide +kernel
theorem dX6_findFars_26 : decode cX6_findFars 26 = .ok (.iconst 0, 1) := by decide +kernel
theorem dX6_findFars_27 : decode cX6_findFars 27 = .ok (.istore 6, 2) := by decide +kernel
theorem dX6_findFars_29 : decode cX6_findFars 29 = .ok (.iload 6, 2) := by decide +kernel
theorem dX6_findFars_31 : decode cX6_findFars 31 = .ok (.aload_n 0, 1) := by decide +kernel
theorem dX6_findFars_32 : decode cX6_findFars 32 = .ok (.getfield 80, 3) := by decide +kernel
theorem dX6_findFars_35 : decode cX6_findFars 35 = .ok (.if_icmp .ge 44, 3) := by decide +kernel
theorem dX6_findFars_38 : decode cX6_findFars 38 = .ok (.iload_n 3, 1) := by decide +kernel
theorem dX6_findFars_39 : decode cX6_findFars 39 = .ok (.iload 6, 2) := by decide +kernel
theorem dX6_findFars_41 : decode cX6_findFars 41 = .ok (.invokestatic 87, 3) := by decide +kernel
theorem dX6_findFars_44 : decode cX6_findFars 44 = .ok (.ifCond .eq 29, 3) := by decide +kernel
theorem dX6_findFars_47 : decode cX6_findFars 47 = .ok (.aload_n 0, 1) := by decide +kernel
theorem dX6_findFars_48 : decode cX6_findFars 48 = .ok (.getfield 37, 3) := by decide +kernel
theorem dX6_findFars_51 : decode cX6_findFars 51 = .ok (.bipush 8, 2) := by decide +kernel
theorem dX6_findFars_53 : decode cX6_findFars 53 = .ok (.iload_n 1, 1) := by decide +kernel
theorem dX6_findFars_54 : decode cX6_findFars 54 = .ok (.imul, 1) := by decide +kernel
theorem dX6_findFars_55 : decode cX6_findFars 55 = .ok (.iload 6, 2) := by decide +kernel
theorem dX6_findFars_57 : decode cX6_findFars 57 = .ok (.iadd, 1) := by decide +kernel
theorem dX6_findFars_58 : decode cX6_findFars 58 = .ok (.iload 4, 2) := by decide +kernel
theorem dX6_findFars_60 : decode cX6_findFars 60 = .ok (.iastore, 1) := by decide +kernel
theorem dX6_findFars_61 : decode cX6_findFars 61 = .ok (.iload 5, 2) := by decide +kernel
theorem dX6_findFars_63 : decode cX6_findFars 63 = .ok (.aload_n 0, 1) := by decide +kernel
theorem dX6_findFars_64 : decode cX6_findFars 64 = .ok (.getfield 19, 3) := by decide +kernel
theorem dX6_findFars_67 : decode cX6_findFars 67 = .ok (.iload 6, 2) := by decide +kernel
theorem dX6_findFars_69 : decode cX6_findFars 69 = .ok (.iaload, 1) := by decide +kernel
theorem dX6_findFars_70 : decode cX6_findFars 70 = .ok (.ior, 1) := by decide +kernel
theorem dX6_findFars_71 : decode cX6_findFars 71 = .ok (.istore 5, 2) := by decide +kernel
theorem dX6_findFars_73 : decode cX6_findFars 73 = .ok (.iinc 6 1, 3) := by decide +kernel
theorem dX6_findFars_76 : decode cX6_findFars 76 = .ok (.goto (-47), 3) := by decide +kernel
theorem dX6_findFars_79 : decode cX6_findFars 79 = .ok (.iload_n 2, 1) := by decide +kernel
theorem dX6_findFars_80 : decode cX6_findFars 80 = .ok (.iload_n 3, 1) := by decide +kernel
theorem dX6_findFars_81 : decode cX6_findFars 81 = .ok (.ior, 1) := by decide +kernel
theorem dX6_findFars_82 : decode cX6_findFars 82 = .ok (.istore_n 2, 1) := by decide +kernel
theorem dX6_findFars_83 : decode cX6_findFars 83 = .ok (.iload 5, 2) := by decide +kernel
theorem dX6_findFars_85 : decode cX6_findFars 85 = .ok (.iload_n 2, 1) := by decide +kernel
theorem dX6_findFars_86 : decode cX6_findFars 86 = .ok (.iconst (-1), 1) := by decide +kernel
theorem dX6_findFars_87 : decode cX6_findFars 87 = .ok (.ixor, 1) := by decide +kernel
theorem dX6_findFars_88 : decode cX6_findFars 88 = .ok (.iand, 1) := by decide +kernel
theorem dX6_findFars_89 : decode cX6_findFars 89 = .ok (.istore_n 3, 1) := by decide +kernel
theorem dX6_findFars_90 : decode cX6_findFars 90 = .ok (.iinc 4 1, 3) := by decide +kernel
theorem dX6_findFars_93 : decode cX6_findFars 93 = .ok (.goto (-74), 3) := by decide +kernel
theorem dX6_findFars_96 : decode cX6_findFars 96 = .ok (.iinc 1 1, 3) := by decide +kernel
theorem dX6_findFars_99 : decode cX6_findFars 99 = .ok (.goto (-97), 3) := by decide +kernel
theorem dX6_findFars_102 : decode cX6_findFars 102 = .ok (.return_, 1) := by decide +kernel
theorem dX6_farthestFrom_0 : decode cX6_farthestFrom 0 = .ok (.iconst 0, 1) := by decide +kernel
theorem dX6_farthestFrom_1 : decode cX6_farthestFrom 1 = .ok (.istore_n 2, 1) := by decide +kernel
theorem dX6_farthestFrom_2 : decode cX6_farthestFrom 2 = .ok (.iconst 0, 1) := by decide +kernel
theorem dX6_farthestFrom_3 : decode cX6_farthestFrom 3 = .ok (.istore_n 3, 1) := by decide +kernel
theorem dX6_farthestFrom_4 : decode cX6_farthestFrom 4 = .ok (.iload_n 3, 1) := by decide +kernel
theorem dX6_farthestFrom_5 : decode cX6_farthestFrom 5 = .ok (.aload_n 0, 1) := by decide +kernel
theorem dX6_farthestFrom_6 : decode cX6_farthestFrom 6 = .ok (.getfield 80, 3) := by decide +kernel
theorem dX6_farthestFrom_9 : decode cX6_farthestFrom 9 = .ok (.if_icmp .ge 40, 3) := by decide +kernel
theorem dX6_farthestFrom_12 : decode cX6_farthestFrom 12 = .ok (.aload_n 0, 1) := by decide +kernel
theorem dX6_farthestFrom_13 : decode cX6_farthestFrom 13 = .ok (.getfield 37, 3) := by decide +kernel
theorem dX6_farthestFrom_16 : decode cX6_farthestFrom 16 = .ok (.bipush 8, 2) := by decide +kernel
