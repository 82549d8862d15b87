theorem dX4_init_0 : decode cX4_init 0 = .ok (.aload_n 0, 1) := by decide +kernel
theorem dX4_init_1 : decode cX4_init 1 = .ok (.invokespecial 3, 3) := by decide +kernel
theorem dX4_init_4 : decode cX4_init 4 = .ok (.aload_n 0, 1) := by decide +kernel
theorem dX4_init_5 : decode cX4_init 5 = .ok (.bipush 8, 2) := by decide +kernel
theorem dX4_init_7 : decode cX4_init 7 = .ok (.newarray .int, 2) := by decide +kernel
theorem dX4_init_9 : decode cX4_init 9 = .ok (.putfield 9, 3) := by decide +kernel
theorem dX4_init_12 : decode cX4_init 12 = .ok (.aload_n 0, 1) := by decide +kernel
theorem dX4_init_13 : decode cX4_init 13 = .ok (.bipush 8, 2) := by decide +kernel
theorem dX4_init_15 : decode cX4_init 15 = .ok (.newarray .int, 2) := by decide +kernel
theorem dX4_init_17 : decode cX4_init 17 = .ok (.putfield 15, 3) := by decide +kernel
theorem dX4_init_20 : decode cX4_init 20 = .ok (.aload_n 0, 1) := by decide +kernel
theorem dX4_init_21 : decode cX4_init 21 = .ok (.bipush 8, 2) := by decide +kernel
theorem dX4_init_23 : decode cX4_init 23 = .ok (.newarray .int, 2) := by decide +kernel
theorem dX4_init_25 : decode cX4_init 25 = .ok (.putfield 18, 3) := by decide +kernel
theorem dX4_init_28 : decode cX4_init 28 = .ok (.aload_n 0, 1) := by decide +kernel
theorem dX4_init_29 : decode cX4_init 29 = .ok (.bipush 8, 2) := by decide +kernel
theorem dX4_init_31 : decode cX4_init 31 = .ok (.bipush 8, 2) := by decide +kernel
theorem dX4_init_33 : decode cX4_init 33 = .ok (.multianewarray 21 2, 4) := by decide +kernel
theorem dX4_init_37 : decode cX4_init 37 = .ok (.putfield 23, 3) := by decide +kernel
theorem dX4_init_40 : decode cX4_init 40 = .ok (.aload_n 0, 1) := by decide +kernel
theorem dX4_init_41 : decode cX4_init 41 = .ok (.bipush 8, 2) := by decide +kernel
theorem dX4_init_43 : decode cX4_init 43 = .ok (.newarray .int, 2) := by decide +kernel
theorem dX4_init_45 : decode cX4_init 45 = .ok (.putfield 26, 3) := by decide +kernel
theorem dX4_init_48 : decode cX4_init 48 = .ok (.aload_n 0, 1) := by decide +kernel
theorem dX4_init_49 : decode cX4_init 49 = .ok (.bipush 8, 2) := by decide +kernel
theorem dX4_init_51 : decode cX4_init 51 = .ok (.newarray .int, 2) := by decide +kernel
theorem dX4_init_53 : decode cX4_init 53 = .ok (.putfield 29, 3) := by decide +kernel
theorem dX4_init_56 : decode cX4_init 56 = .ok (.aload_n 0, 1) := by decide +kernel
theorem dX4_init_57 : decode cX4_init 57 = .ok (.bipush 8, 2) := by decide +kernel
theorem dX4_init_59 : decode cX4_init 59 = .ok (.newarray .int, 2) := by decide +kernel
theorem dX4_init_61 : decode cX4_init 61 = .ok (.putfield 32, 3) := by decide +kernel
theorem dX4_init_64 : decode cX4_init 64 = .ok (.aload_n 0, 1) := by decide +kernel
theorem dX4_init_65 : decode cX4_init 65 = .ok (.bipush 8, 2) := by decide +kernel
theorem dX4_init_67 : decode cX4_init 67 = .ok (.newarray .int, 2) := by decide +kernel
theorem dX4_init_69 : decode cX4_init 69 = .ok (.putfield 35, 3) := by decide +kernel
theorem dX4_init_72 : decode cX4_init 72 = .ok (.return_, 1) := by decide +kernel
theorem dX4_isPost_0 : decode cX4_isPost 0 = .ok (.iload_n 1, 1) := by decide +kernel
theorem dX4_isPost_1 : decode cX4_isPost 1 = .ok (.ifCond .lt 15, 3) := by decide +kernel
theorem dX4_isPost_4 : decode cX4_isPost 4 = .ok (.iload_n 1, 1) := by decide +kernel
theorem dX4_isPost_5 : decode cX4_isPost 5 = .ok (.aload_n 0, 1) := by decide +kernel
theorem dX4_isPost_6 : decode cX4_isPost 6 = .ok (.getfield 38, 3) := by decide +kernel
theorem dX4_isPost_9 : decode cX4_isPost 9 = .ok (.if_icmp .ge 7, 3) := by decide +kernel
theorem dX4_isPost_12 : decode cX4_isPost 12 = .ok (.iconst 1, 1) := by decide +kernel
theorem dX4_isPost_13 : decode cX4_isPost 13 = .ok (.goto 4, 3) := by decide +kernel
theorem dX4_isPost_16 : decode cX4_isPost 16 = .ok (.iconst 0, 1) := by decide +kernel
theorem dX4_isPost_17 : decode cX4_isPost 17 = .ok (.ireturn, 1) := by decide +kernel
theorem dX4_isEnd_0 : decode cX4_isEnd 0 = .ok (.aload_n 0, 1) := by decide +kernel
theorem dX4_isEnd_1 : decode cX4_isEnd 1 = .ok (.getfield 18, 3) := by decide +kernel
theorem dX4_isEnd_4 : decode cX4_isEnd 4 = .ok (.iload_n 1, 1) := by decide +kernel
theorem dX4_isEnd_5 : decode cX4_isEnd 5 = .ok (.iaload, 1) := by decide +kernel
theorem dX4_isEnd_6 : decode cX4_isEnd 6 = .ok (.invokestatic 42, 3) := by decide +kernel
theorem dX4_isEnd_9 : decode cX4_isEnd 9 = .ok (.iconst 1, 1) := by decide +kernel
theorem dX4_isEnd_10 : decode cX4_isEnd 10 = .ok (.if_icmp .ne 7, 3) := by decide +kernel
theorem dX4_isEnd_13 : decode cX4_isEnd 13 = .ok (.iconst 1, 1) := by decide +kernel
theorem dX4_isEnd_14 : decode cX4_isEnd 14 = .ok (.goto 4, 3) := by decide +kernel
theorem dX4_isEnd_17 : decode cX4_isEnd 17 = .ok (.iconst 0, 1) := by decide +kernel
theorem dX4_isEnd_18 : decode cX4_isEnd 18 = .ok (.ireturn, 1) := by decide +kernel
theorem dX4_worth_0 : decode cX4_worth 0 = .ok (.aload_n 0, 1) := by decide +kernel
theorem dX4_worth_1 : decode cX4_worth 1 = .ok (.getfield 9, 3) := by decide +kernel
theorem dX4_worth_4 : decode cX4_worth 4 = .ok (.iload_n 1, 1) := by decide +kernel
theorem dX4_worth_5 : decode cX4_worth 5 = .ok (.iaload, 1) := by decide +kernel
theorem dX4_worth_6 : decode cX4_worth 6 = .ok (.aload_n 0, 1) := by decide +kernel
theorem dX4_worth_7 : decode cX4_worth 7 = .ok (.getfield 15, 3) := by decide +kernel
theorem dX4_worth_10 : decode cX4_worth 10 = .ok (.iload_n 1, 1) := by decide +kernel
theorem dX4_worth_11 : decode cX4_worth 11 = .ok (.iaload, 1) := by decide +kernel
theorem dX4_worth_12 : decode cX4_worth 12 = .ok (.invokestatic 48, 3) := by decide +kernel
theorem dX4_worth_15 : decode cX4_worth 15 = .ok (.ireturn, 1) := by decide +kernel
theorem dX4_worthOfAll_0 : decode cX4_worthOfAll 0 = .ok (.iconst 0, 1) := by decide +kernel
theorem dX4_worthOfAll_1 : decode cX4_worthOfAll 1 = .ok (.istore_n 1, 1) := by decide +kernel
theorem dX4_worthOfAll_2 : decode cX4_worthOfAll 2 = .ok (.iconst 0, 1) := by decide +kernel
theorem dX4_worthOfAll_3 : decode cX4_worthOfAll 3 = .ok (.istore_n 2, 1) := by decide +kernel
theorem dX4_worthOfAll_4 : decode cX4_worthOfAll 4 = .ok (.iload_n 2, 1) := by decide +kernel
theorem dX4_worthOfAll_5 : decode cX4_worthOfAll 5 = .ok (.aload_n 0, 1) := by decide +kernel
theorem dX4_worthOfAll_6 : decode cX4_worthOfAll 6 = .ok (.getfield 38, 3) := by decide +kernel
theorem dX4_worthOfAll_9 : decode cX4_worthOfAll 9 = .ok (.if_icmp .ge 17, 3) := by decide +kernel
theorem dX4_worthOfAll_12 : decode cX4_worthOfAll 12 = .ok (.iload_n 1, 1) := by decide +kernel
theorem dX4_worthOfAll_13 : decode cX4_worthOfAll 13 = .ok (.aload_n 0, 1) := by decide +kernel
theorem dX4_worthOfAll_14 : decode cX4_worthOfAll 14 = .ok (.iload_n 2, 1) := by decide +kernel
theorem dX4_worthOfAll_15 : decode cX4_worthOfAll 15 = .ok (.invokevirtual 52, 3) := by decide +kernel
theorem dX4_worthOfAll_18 : decode cX4_worthOfAll 18 = .ok (.iadd, 1) := by decide +kernel
theorem dX4_worthOfAll_19 : decode cX4_worthOfAll 19 = .ok (.istore_n 1, 1) := by decide +kernel
theorem dX4_worthOfAll_20 : decode cX4_worthOfAll 20 = .ok (.iinc 2 1, 3) := by decide +kernel
theorem dX4_worthOfAll_23 : decode cX4_worthOfAll 23 = .ok (.goto (-19), 3) := by decide +kernel
theorem dX4_worthOfAll_26 : decode cX4_worthOfAll 26 = .ok (.iload_n 1, 1) := by decide +kernel
theorem dX4_worthOfAll_27 : decode cX4_worthOfAll 27 = .ok (.ireturn, 1) := by decide +kernel
theorem dX4_ends_0 : decode cX4_ends 0 = .ok (.iconst 0, 1) := by decide +kernel
theorem dX4_ends_1 : decode cX4_ends 1 = .ok (.istore_n 1, 1) := by decide +kernel
theorem dX4_ends_2 : decode cX4_ends 2 = .ok (.iconst 0, 1) := by decide +kernel
theorem dX4_ends_3 : decode cX4_ends 3 = .ok (.istore_n 2, 1) := by decide +kernel
theorem dX4_ends_4 : decode cX4_ends 4 = .ok (.iload_n 2, 1) := by decide +kernel
theorem dX4_ends_5 : decode cX4_ends 5 = .ok (.aload_n 0, 1) := by decide +kernel
theorem dX4_ends_6 : decode cX4_ends 6 = .ok (.getfield 38, 3) := by decide +kernel
theorem dX4_ends_9 : decode cX4_ends 9 = .ok (.if_icmp .ge 23, 3) := by decide +kernel
theorem dX4_ends_12 : decode cX4_ends 12 = .ok (.aload_n 0, 1) := by decide +kernel
theorem dX4_ends_13 : decode cX4_ends 13 = .ok (.iload_n 2, 1) := by decide +kernel
theorem dX4_ends_14 : decode cX4_ends 14 = .ok (.invokevirtual 55, 3) := by decide +kernel
theorem dX4_ends_17 : decode cX4_ends 17 = .ok (.ifCond .eq 9, 3) := by decide +kernel
theorem dX4_ends_20 : decode cX4_ends 20 = .ok (.iload_n 1, 1) := by decide +kernel
theorem dX4_ends_21 : decode cX4_ends 21 = .ok (.iconst 1, 1) := by decide +kernel
theorem dX4_ends_22 : decode cX4_ends 22 = .ok (.iload_n 2, 1) := by decide +kernel
theorem dX4_ends_23 : decode cX4_ends 23 = .ok (.ishl, 1) := by decide +kernel
theorem dX4_ends_24 : decode cX4_ends 24 = .ok (.ior, 1) := by decide +kernel
theorem dX4_ends_25 : decode cX4_ends 25 = .ok (.istore_n 1, 1) := by decide +kernel
theorem dX4_ends_26 : decode cX4_ends 26 = .ok (.iinc 2 1, 3) := by decide +kernel
theorem dX4_ends_29 : decode cX4_ends 29 = .ok (.goto (-25), 3) := by decide +kernel
theorem dX4_ends_32 : decode cX4_ends 32 = .ok (.iload_n 1, 1) := by decide +kernel
theorem dX4_ends_33 : decode cX4_ends 33 = .ok (.ireturn, 1) := by decide +kernel
theorem dX4_isOnWay_0 : decode cX4_isOnWay 0 = .ok (.aload_n 0, 1) := by decide +kernel
theorem dX4_isOnWay_1 : decode cX4_isOnWay 1 = .ok (.getfield 23, 3) := by decide +kernel
theorem dX4_isOnWay_4 : decode cX4_isOnWay 4 = .ok (.iload_n 1, 1) := by decide +kernel
theorem dX4_isOnWay_5 : decode cX4_isOnWay 5 = .ok (.aaload, 1) := by decide +kernel
theorem dX4_isOnWay_6 : decode cX4_isOnWay 6 = .ok (.iload_n 3, 1) := by decide +kernel
theorem dX4_isOnWay_7 : decode cX4_isOnWay 7 = .ok (.iaload, 1) := by decide +kernel
theorem dX4_isOnWay_8 : decode cX4_isOnWay 8 = .ok (.aload_n 0, 1) := by decide +kernel
theorem dX4_isOnWay_9 : decode cX4_isOnWay 9 = .ok (.getfield 23, 3) := by decide +kernel
theorem dX4_isOnWay_12 : decode cX4_isOnWay 12 = .ok (.iload_n 3, 1) := by decide +kernel
theorem dX4_isOnWay_13 : decode cX4_isOnWay 13 = .ok (.aaload, 1) := by decide +kernel
theorem dX4_isOnWay_14 : decode cX4_isOnWay 14 = .ok (.iload_n 2, 1) := by decide +kernel
theorem dX4_isOnWay_15 : decode cX4_isOnWay 15 = .ok (.iaload, 1) := by decide +kernel
theorem dX4_isOnWay_16 : decode cX4_isOnWay 16 = .ok (.iadd, 1) := by decide +kernel
theorem dX4_isOnWay_17 : decode cX4_isOnWay 17 = .ok (.aload_n 0, 1) := by decide +kernel
theorem dX4_isOnWay_18 : decode cX4_isOnWay 18 = .ok (.getfield 23, 3) := by decide +kernel
theorem dX4_isOnWay_21 : decode cX4_isOnWay 21 = .ok (.iload_n 1, 1) := by decide +kernel
theorem dX4_isOnWay_22 : decode cX4_isOnWay 22 = .ok (.aaload, 1) := by decide +kernel
theorem dX4_isOnWay_23 : decode cX4_isOnWay 23 = .ok (.iload_n 2, 1) := by decide +kernel
theorem dX4_isOnWay_24 : decode cX4_isOnWay 24 = .ok (.iaload, 1) := by decide +kernel
theorem dX4_isOnWay_25 : decode cX4_isOnWay 25 = .ok (.if_icmp .ne 7, 3) := by decide +kernel
theorem dX4_isOnWay_28 : decode cX4_isOnWay 28 = .ok (.iconst 1, 1) := by decide +kernel
theorem dX4_isOnWay_29 : decode cX4_isOnWay 29 = .ok (.goto 4, 3) := by decide +kernel
theorem dX4_isOnWay_32 : decode cX4_isOnWay 32 = .ok (.iconst 0, 1) := by decide +kernel
theorem dX4_isOnWay_33 : decode cX4_isOnWay 33 = .ok (.ireturn, 1) := by decide +kernel
theorem dX4_farthest_0 : decode cX4_farthest 0 = .ok (.iconst 0, 1) := by decide +kernel
theorem dX4_farthest_1 : decode cX4_farthest 1 = .ok (.istore_n 2, 1) := by decide +kernel
theorem dX4_farthest_2 : decode cX4_farthest 2 = .ok (.iconst 0, 1) := by decide +kernel
theorem dX4_farthest_3 : decode cX4_farthest 3 = .ok (.istore_n 3, 1) := by decide +kernel
theorem dX4_farthest_4 : decode cX4_farthest 4 = .ok (.iload_n 3, 1) := by decide +kernel
theorem dX4_farthest_5 : decode cX4_farthest 5 = .ok (.aload_n 0, 1) := by decide +kernel
theorem dX4_farthest_6 : decode cX4_farthest 6 = .ok (.getfield 38, 3) := by decide +kernel
theorem dX4_farthest_9 : decode cX4_farthest 9 = .ok (.if_icmp .ge 22, 3) := by decide +kernel
theorem dX4_farthest_12 : decode cX4_farthest 12 = .ok (.iload_n 2, 1) := by decide +kernel
theorem dX4_farthest_13 : decode cX4_farthest 13 = .ok (.aload_n 0, 1) := by decide +kernel
theorem dX4_farthest_14 : decode cX4_farthest 14 = .ok (.getfield 23, 3) := by decide +kernel
theorem dX4_farthest_17 : decode cX4_farthest 17 = .ok (.iload_n 1, 1) := by decide +kernel
theorem dX4_farthest_18 : decode cX4_farthest 18 = .ok (.aaload, 1) := by decide +kernel
theorem dX4_farthest_19 : decode cX4_farthest 19 = .ok (.iload_n 3, 1) := by decide +kernel
theorem dX4_farthest_20 : decode cX4_farthest 20 = .ok (.iaload, 1) := by decide +kernel
theorem dX4_farthest_21 : decode cX4_farthest 21 = .ok (.invokestatic 59, 3) := by decide +kernel
theorem dX4_farthest_24 : decode cX4_farthest 24 = .ok (.istore_n 2, 1) := by decide +kernel
theorem dX4_farthest_25 : decode cX4_farthest 25 = .ok (.iinc 3 1, 3) := by decide +kernel
theorem dX4_farthest_28 : decode cX4_farthest 28 = .ok (.goto (-24), 3) := by decide +kernel
theorem dX4_farthest_31 : decode cX4_farthest 31 = .ok (.iload_n 2, 1) := by decide +kernel
theorem dX4_farthest_32 : decode cX4_farthest 32 = .ok (.ireturn, 1) := by decide +kernel
theorem dX4_longest_0 : decode cX4_longest 0 = .ok (.iconst 0, 1) := by decide +kernel
theorem dX4_longest_1 : decode cX4_longest 1 = .ok (.istore_n 1, 1) := by decide +kernel
theorem dX4_longest_2 : decode cX4_longest 2 = .ok (.iconst 0, 1) := by decide +kernel
theorem dX4_longest_3 : decode cX4_longest 3 = .ok (.istore_n 2, 1) := by decide +kernel
theorem dX4_longest_4 : decode cX4_longest 4 = .ok (.iload_n 2, 1) := by decide +kernel
theorem dX4_longest_5 : decode cX4_longest 5 = .ok (.aload_n 0, 1) := by decide +kernel
theorem dX4_longest_6 : decode cX4_longest 6 = .ok (.getfield 38, 3) := by decide +kernel
theorem dX4_longest_9 : decode cX4_longest 9 = .ok (.if_icmp .ge 19, 3) := by decide +kernel
theorem dX4_longest_12 : decode cX4_longest 12 = .ok (.iload_n 1, 1) := by decide +kernel
theorem dX4_longest_13 : decode cX4_longest 13 = .ok (.aload_n 0, 1) := by decide +kernel
theorem dX4_longest_14 : decode cX4_longest 14 = .ok (.iload_n 2, 1) := by decide +kernel
theorem dX4_longest_15 : decode cX4_longest 15 = .ok (.invokevirtual 64, 3) := by decide +kernel
theorem dX4_longest_18 : decode cX4_longest 18 = .ok (.invokestatic 59, 3) := by decide +kernel
theorem dX4_longest_21 : decode cX4_longest 21 = .ok (.istore_n 1, 1) := by decide +kernel
theorem dX4_longest_22 : decode cX4_longest 22 = .ok (.iinc 2 1, 3) := by decide +kernel
theorem dX4_longest_25 : decode cX4_longest 25 = .ok (.goto (-21), 3) := by decide +kernel
theorem dX4_longest_28 : decode cX4_longest 28 = .ok (.iload_n 1, 1) := by decide +kernel
theorem dX4_longest_29 : decode cX4_longest 29 = .ok (.ireturn, 1) := by decide +kernel
theorem dX4_middles_0 : decode cX4_middles 0 = .ok (.bipush 8, 2) := by decide +kernel
theorem dX4_middles_2 : decode cX4_middles 2 = .ok (.istore_n 1, 1) := by decide +kernel
theorem dX4_middles_3 : decode cX4_middles 3 = .ok (.iconst 0, 1) := by decide +kernel
theorem dX4_middles_4 : decode cX4_middles 4 = .ok (.istore_n 2, 1) := by decide +kernel
theorem dX4_middles_5 : decode cX4_middles 5 = .ok (.iconst 0, 1) := by decide +kernel
theorem dX4_middles_6 : decode cX4_middles 6 = .ok (.istore_n 3, 1) := by decide +kernel
theorem dX4_middles_7 : decode cX4_middles 7 = .ok (.iload_n 3, 1) := by decide +kernel
theorem dX4_middles_8 : decode cX4_middles 8 = .ok (.aload_n 0, 1) := by decide +kernel
theorem dX4_middles_9 : decode cX4_middles 9 = .ok (.getfield 38, 3) := by decide +kernel
theorem dX4_middles_12 : decode cX4_middles 12 = .ok (.if_icmp .ge 39, 3) := by decide +kernel
theorem dX4_middles_15 : decode cX4_middles 15 = .ok (.aload_n 0, 1) := by decide +kernel
theorem dX4_middles_16 : decode cX4_middles 16 = .ok (.iload_n 3, 1) := by decide +kernel
theorem dX4_middles_17 : decode cX4_middles 17 = .ok (.invokevirtual 64, 3) := by decide +kernel
theorem dX4_middles_20 : decode cX4_middles 20 = .ok (.istore 4, 2) := by decide +kernel
theorem dX4_middles_22 : decode cX4_middles 22 = .ok (.iload 4, 2) := by decide +kernel
theorem dX4_middles_24 : decode cX4_middles 24 = .ok (.iload_n 1, 1) := by decide +kernel
theorem dX4_middles_25 : decode cX4_middles 25 = .ok (.if_icmp .ge 8, 3) := by decide +kernel
theorem dX4_middles_28 : decode cX4_middles 28 = .ok (.iload 4, 2) := by decide +kernel
theorem dX4_middles_30 : decode cX4_middles 30 = .ok (.istore_n 1, 1) := by decide +kernel
theorem dX4_middles_31 : decode cX4_middles 31 = .ok (.iconst 0, 1) := by decide +kernel
theorem dX4_middles_32 : decode cX4_middles 32 = .ok (.istore_n 2, 1) := by decide +kernel
theorem dX4_middles_33 : decode cX4_middles 33 = .ok (.iload 4, 2) := by decide +kernel
theorem dX4_middles_35 : decode cX4_middles 35 = .ok (.iload_n 1, 1) := by decide +kernel
theorem dX4_middles_36 : decode cX4_middles 36 = .ok (.if_icmp .ne 9, 3) := by decide +kernel
theorem dX4_middles_39 : decode cX4_middles 39 = .ok (.iload_n 2, 1) := by decide +kernel
theorem dX4_middles_40 : decode cX4_middles 40 = .ok (.iconst 1, 1) := by decide +kernel
theorem dX4_middles_41 : decode cX4_middles 41 = .ok (.iload_n 3, 1) := by decide +kernel
theorem dX4_middles_42 : decode cX4_middles 42 = .ok (.ishl, 1) := by decide +kernel
theorem dX4_middles_43 : decode cX4_middles 43 = .ok (.ior, 1) := by decide +kernel
theorem dX4_middles_44 : decode cX4_middles 44 = .ok (.istore_n 2, 1) := by decide +kernel
theorem dX4_middles_45 : decode cX4_middles 45 = .ok (.iinc 3 1, 3) := by decide +kernel
theorem dX4_middles_48 : decode cX4_middles 48 = .ok (.goto (-41), 3) := by decide +kernel
theorem dX4_middles_51 : decode cX4_middles 51 = .ok (.iload_n 2, 1) := by decide +kernel
theorem dX4_middles_52 : decode cX4_middles 52 = .ok (.ireturn, 1) := by decide +kernel
theorem dX4_twosWithin_0 : decode cX4_twosWithin 0 = .ok (.iconst 0, 1) := by decide +kernel
theorem dX4_twosWithin_1 : decode cX4_twosWithin 1 = .ok (.istore_n 2, 1) := by decide +kernel
theorem dX4_twosWithin_2 : decode cX4_twosWithin 2 = .ok (.iconst 0, 1) := by decide +kernel
theorem dX4_twosWithin_3 : decode cX4_twosWithin 3 = .ok (.istore_n 3, 1) := by decide +kernel
theorem dX4_twosWithin_4 : decode cX4_twosWithin 4 = .ok (.iload_n 3, 1) := by decide +kernel
theorem dX4_twosWithin_5 : decode cX4_twosWithin 5 = .ok (.aload_n 0, 1) := by decide +kernel
theorem dX4_twosWithin_6 : decode cX4_twosWithin 6 = .ok (.getfield 38, 3) := by decide +kernel
theorem dX4_twosWithin_9 : decode cX4_twosWithin 9 = .ok (.if_icmp .ge 40, 3) := by decide +kernel
theorem dX4_twosWithin_12 : decode cX4_twosWithin 12 = .ok (.iconst 0, 1) := by decide +kernel
theorem dX4_twosWithin_13 : decode cX4_twosWithin 13 = .ok (.istore 4, 2) := by decide +kernel
theorem dX4_twosWithin_15 : decode cX4_twosWithin 15 = .ok (.iload 4, 2) := by decide +kernel
theorem dX4_twosWithin_17 : decode cX4_twosWithin 17 = .ok (.iload_n 3, 1) := by decide +kernel
theorem dX4_twosWithin_18 : decode cX4_twosWithin 18 = .ok (.if_icmp .ge 25, 3) := by decide +kernel
theorem dX4_twosWithin_21 : decode cX4_twosWithin 21 = .ok (.aload_n 0, 1) := by decide +kernel
theorem dX4_twosWithin_22 : decode cX4_twosWithin 22 = .ok (.getfield 23, 3) := by decide +kernel
theorem dX4_twosWithin_25 : decode cX4_twosWithin 25 = .ok (.iload_n 3, 1) := by decide +kernel
theorem dX4_twosWithin_26 : decode cX4_twosWithin 26 = .ok (.aaload, 1) := by decide +kernel
theorem dX4_twosWithin_27 : decode cX4_twosWithin 27 = .ok (.iload 4, 2) := by decide +kernel
theorem dX4_twosWithin_29 : decode cX4_twosWithin 29 = .ok (.iaload, 1) := by decide +kernel
theorem dX4_twosWithin_30 : decode cX4_twosWithin 30 = .ok (.iload_n 1, 1) := by decide +kernel
theorem dX4_twosWithin_31 : decode cX4_twosWithin 31 = .ok (.if_icmp .gt 6, 3) := by decide +kernel
theorem dX4_twosWithin_34 : decode cX4_twosWithin 34 = .ok (.iinc 2 1, 3) := by decide +kernel
theorem dX4_twosWithin_37 : decode cX4_twosWithin 37 = .ok (.iinc 4 1, 3) := by decide +kernel
theorem dX4_twosWithin_40 : decode cX4_twosWithin 40 = .ok (.goto (-25), 3) := by decide +kernel
theorem dX4_twosWithin_43 : decode cX4_twosWithin 43 = .ok (.iinc 3 1, 3) := by decide +kernel
theorem dX4_twosWithin_46 : decode cX4_twosWithin 46 = .ok (.goto (-42), 3) := by decide +kernel
theorem dX4_twosWithin_49 : decode cX4_twosWithin 49 = .ok (.iload_n 2, 1) := by decide +kernel
theorem dX4_twosWithin_50 : decode cX4_twosWithin 50 = .ok (.ireturn, 1) := by decide +kernel
theorem dX4_become_0 : decode cX4_become 0 = .ok (.aload_n 0, 1) := by decide +kernel
theorem dX4_become_1 : decode cX4_become 1 = .ok (.aload_n 1, 1) := by decide +kernel
theorem dX4_become_2 : decode cX4_become 2 = .ok (.getfield 38, 3) := by decide +kernel
theorem dX4_become_5 : decode cX4_become 5 = .ok (.putfield 38, 3) := by decide +kernel
theorem dX4_become_8 : decode cX4_become 8 = .ok (.iconst 0, 1) := by decide +kernel
theorem dX4_become_9 : decode cX4_become 9 = .ok (.istore_n 2, 1) := by decide +kernel
theorem dX4_become_10 : decode cX4_become 10 = .ok (.iload_n 2, 1) := by decide +kernel
theorem dX4_become_11 : decode cX4_become 11 = .ok (.aload_n 0, 1) := by decide +kernel
theorem dX4_become_12 : decode cX4_become 12 = .ok (.getfield 38, 3) := by decide +kernel
theorem dX4_become_15 : decode cX4_become 15 = .ok (.if_icmp .ge 66, 3) := by decide +kernel
theorem dX4_become_18 : decode cX4_become 18 = .ok (.aload_n 0, 1) := by decide +kernel
theorem dX4_become_19 : decode cX4_become 19 = .ok (.getfield 9, 3) := by decide +kernel
theorem dX4_become_22 : decode cX4_become 22 = .ok (.iload_n 2, 1) := by decide +kernel
theorem dX4_become_23 : decode cX4_become 23 = .ok (.aload_n 1, 1) := by decide +kernel
theorem dX4_become_24 : decode cX4_become 24 = .ok (.getfield 9, 3) := by decide +kernel
theorem dX4_become_27 : decode cX4_become 27 = .ok (.iload_n 2, 1) := by decide +kernel
theorem dX4_become_28 : decode cX4_become 28 = .ok (.iaload, 1) := by decide +kernel
theorem dX4_become_29 : decode cX4_become 29 = .ok (.iastore, 1) := by decide +kernel
theorem dX4_become_30 : decode cX4_become 30 = .ok (.aload_n 0, 1) := by decide +kernel
theorem dX4_become_31 : decode cX4_become 31 = .ok (.getfield 15, 3) := by decide +kernel
theorem dX4_become_34 : decode cX4_become 34 = .ok (.iload_n 2, 1) := by decide +kernel
theorem dX4_become_35 : decode cX4_become 35 = .ok (.aload_n 1, 1) := by decide +kernel
theorem dX4_become_36 : decode cX4_become 36 = .ok (.getfield 15, 3) := by decide +kernel
theorem dX4_become_39 : decode cX4_become 39 = .ok (.iload_n 2, 1) := by decide +kernel
theorem dX4_become_40 : decode cX4_become 40 = .ok (.iaload, 1) := by decide +kernel
theorem dX4_become_41 : decode cX4_become 41 = .ok (.iastore, 1) := by decide +kernel
theorem dX4_become_42 : decode cX4_become 42 = .ok (.aload_n 0, 1) := by decide +kernel
theorem dX4_become_43 : decode cX4_become 43 = .ok (.getfield 18, 3) := by decide +kernel
theorem dX4_become_46 : decode cX4_become 46 = .ok (.iload_n 2, 1) := by decide +kernel
theorem dX4_become_47 : decode cX4_become 47 = .ok (.aload_n 1, 1) := by decide +kernel
theorem dX4_become_48 : decode cX4_become 48 = .ok (.getfield 18, 3) := by decide +kernel
theorem dX4_become_51 : decode cX4_become 51 = .ok (.iload_n 2, 1) := by decide +kernel
theorem dX4_become_52 : decode cX4_become 52 = .ok (.iaload, 1) := by decide +kernel
theorem dX4_become_53 : decode cX4_become 53 = .ok (.iastore, 1) := by decide +kernel
theorem dX4_become_54 : decode cX4_become 54 = .ok (.aload_n 1, 1) := by decide +kernel
theorem dX4_become_55 : decode cX4_become 55 = .ok (.getfield 23, 3) := by decide +kernel
theorem dX4_become_58 : decode cX4_become 58 = .ok (.iload_n 2, 1) := by decide +kernel
theorem dX4_become_59 : decode cX4_become 59 = .ok (.aaload, 1) := by decide +kernel
theorem dX4_become_60 : decode cX4_become 60 = .ok (.iconst 0, 1) := by decide +kernel
theorem dX4_become_61 : decode cX4_become 61 = .ok (.aload_n 0, 1) := by decide +kernel
theorem dX4_become_62 : decode cX4_become 62 = .ok (.getfield 23, 3) := by decide +kernel
theorem dX4_become_65 : decode cX4_become 65 = .ok (.iload_n 2, 1) := by decide +kernel
theorem dX4_become_66 : decode cX4_become 66 = .ok (.aaload, 1) := by decide +kernel
theorem dX4_become_67 : decode cX4_become 67 = .ok (.iconst 0, 1) := by decide +kernel
theorem dX4_become_68 : decode cX4_become 68 = .ok (.aload_n 0, 1) := by decide +kernel
theorem dX4_become_69 : decode cX4_become 69 = .ok (.getfield 38, 3) := by decide +kernel
theorem dX4_become_72 : decode cX4_become 72 = .ok (.invokestatic 67, 3) := by decide +kernel
theorem dX4_become_75 : decode cX4_become 75 = .ok (.iinc 2 1, 3) := by decide +kernel
theorem dX4_become_78 : decode cX4_become 78 = .ok (.goto (-68), 3) := by decide +kernel
theorem dX4_become_81 : decode cX4_become 81 = .ok (.return_, 1) := by decide +kernel
theorem dX4_grow_0 : decode cX4_grow 0 = .ok (.aload_n 0, 1) := by decide +kernel
theorem dX4_grow_1 : decode cX4_grow 1 = .ok (.aload_n 1, 1) := by decide +kernel
theorem dX4_grow_2 : decode cX4_grow 2 = .ok (.iload_n 2, 1) := by decide +kernel
theorem dX4_grow_3 : decode cX4_grow 3 = .ok (.iconst 1, 1) := by decide +kernel
theorem dX4_grow_4 : decode cX4_grow 4 = .ok (.iadd, 1) := by decide +kernel
theorem dX4_grow_5 : decode cX4_grow 5 = .ok (.bipush 8, 2) := by decide +kernel
theorem dX4_grow_7 : decode cX4_grow 7 = .ok (.invokestatic 73, 3) := by decide +kernel
theorem dX4_grow_10 : decode cX4_grow 10 = .ok (.putfield 38, 3) := by decide +kernel
theorem dX4_grow_13 : decode cX4_grow 13 = .ok (.iconst 0, 1) := by decide +kernel
theorem dX4_grow_14 : decode cX4_grow 14 = .ok (.istore_n 3, 1) := by decide +kernel
theorem dX4_grow_15 : decode cX4_grow 15 = .ok (.iload_n 3, 1) := by decide +kernel
theorem dX4_grow_16 : decode cX4_grow 16 = .ok (.aload_n 0, 1) := by decide +kernel
theorem dX4_grow_17 : decode cX4_grow 17 = .ok (.getfield 38, 3) := by decide +kernel
theorem dX4_grow_20 : decode cX4_grow 20 = .ok (.iconst 2, 1) := by decide +kernel
theorem dX4_grow_21 : decode cX4_grow 21 = .ok (.isub, 1) := by decide +kernel
theorem dX4_grow_22 : decode cX4_grow 22 = .ok (.if_icmp .ge 30, 3) := by decide +kernel
theorem dX4_grow_25 : decode cX4_grow 25 = .ok (.aload_n 0, 1) := by decide +kernel
theorem dX4_grow_26 : decode cX4_grow 26 = .ok (.getfield 29, 3) := by decide +kernel
theorem dX4_grow_29 : decode cX4_grow 29 = .ok (.iload_n 3, 1) := by decide +kernel
theorem dX4_grow_30 : decode cX4_grow 30 = .ok (.aload_n 1, 1) := by decide +kernel
theorem dX4_grow_31 : decode cX4_grow 31 = .ok (.iload_n 2, 1) := by decide +kernel
theorem dX4_grow_32 : decode cX4_grow 32 = .ok (.iconst 2, 1) := by decide +kernel
theorem dX4_grow_33 : decode cX4_grow 33 = .ok (.iadd, 1) := by decide +kernel
theorem dX4_grow_34 : decode cX4_grow 34 = .ok (.iload_n 3, 1) := by decide +kernel
theorem dX4_grow_35 : decode cX4_grow 35 = .ok (.iadd, 1) := by decide +kernel
theorem dX4_grow_36 : decode cX4_grow 36 = .ok (.aload_n 0, 1) := by decide +kernel
theorem dX4_grow_37 : decode cX4_grow 37 = .ok (.getfield 38, 3) := by decide +kernel
theorem dX4_grow_40 : decode cX4_grow 40 = .ok (.iconst 1, 1) := by decide +kernel
theorem dX4_grow_41 : decode cX4_grow 41 = .ok (.isub, 1) := by decide +kernel
theorem dX4_grow_42 : decode cX4_grow 42 = .ok (.invokestatic 73, 3) := by decide +kernel
theorem dX4_grow_45 : decode cX4_grow 45 = .ok (.iastore, 1) := by decide +kernel
theorem dX4_grow_46 : decode cX4_grow 46 = .ok (.iinc 3 1, 3) := by decide +kernel
theorem dX4_grow_49 : decode cX4_grow 49 = .ok (.goto (-34), 3) := by decide +kernel
theorem dX4_grow_52 : decode cX4_grow 52 = .ok (.iconst 0, 1) := by decide +kernel
theorem dX4_grow_53 : decode cX4_grow 53 = .ok (.istore_n 3, 1) := by decide +kernel
theorem dX4_grow_54 : decode cX4_grow 54 = .ok (.iload_n 3, 1) := by decide +kernel
theorem dX4_grow_55 : decode cX4_grow 55 = .ok (.aload_n 0, 1) := by decide +kernel
theorem dX4_grow_56 : decode cX4_grow 56 = .ok (.getfield 38, 3) := by decide +kernel
theorem dX4_grow_59 : decode cX4_grow 59 = .ok (.if_icmp .ge 63, 3) := by decide +kernel
theorem dX4_grow_62 : decode cX4_grow 62 = .ok (.iload_n 2, 1) := by decide +kernel
theorem dX4_grow_63 : decode cX4_grow 63 = .ok (.aload_n 0, 1) := by decide +kernel
theorem dX4_grow_64 : decode cX4_grow 64 = .ok (.getfield 38, 3) := by decide +kernel
theorem dX4_grow_67 : decode cX4_grow 67 = .ok (.iadd, 1) := by decide +kernel
theorem dX4_grow_68 : decode cX4_grow 68 = .ok (.iconst 2, 1) := by decide +kernel
theorem dX4_grow_69 : decode cX4_grow 69 = .ok (.iload_n 3, 1) := by decide +kernel
theorem dX4_grow_70 : decode cX4_grow 70 = .ok (.imul, 1) := by decide +kernel
theorem dX4_grow_71 : decode cX4_grow 71 = .ok (.iadd, 1) := by decide +kernel
theorem dX4_grow_72 : decode cX4_grow 72 = .ok (.istore 4, 2) := by decide +kernel
theorem dX4_grow_74 : decode cX4_grow 74 = .ok (.aload_n 0, 1) := by decide +kernel
theorem dX4_grow_75 : decode cX4_grow 75 = .ok (.getfield 9, 3) := by decide +kernel
theorem dX4_grow_78 : decode cX4_grow 78 = .ok (.iload_n 3, 1) := by decide +kernel
theorem dX4_grow_79 : decode cX4_grow 79 = .ok (.iconst 0, 1) := by decide +kernel
theorem dX4_grow_80 : decode cX4_grow 80 = .ok (.aload_n 1, 1) := by decide +kernel
theorem dX4_grow_81 : decode cX4_grow 81 = .ok (.iload 4, 2) := by decide +kernel
theorem dX4_grow_83 : decode cX4_grow 83 = .ok (.invokevirtual 79, 3) := by decide +kernel
theorem dX4_grow_86 : decode cX4_grow 86 = .ok (.invokestatic 84, 3) := by decide +kernel
theorem dX4_grow_89 : decode cX4_grow 89 = .ok (.invokestatic 59, 3) := by decide +kernel
theorem dX4_grow_92 : decode cX4_grow 92 = .ok (.iastore, 1) := by decide +kernel
theorem dX4_grow_93 : decode cX4_grow 93 = .ok (.aload_n 0, 1) := by decide +kernel
theorem dX4_grow_94 : decode cX4_grow 94 = .ok (.getfield 15, 3) := by decide +kernel
theorem dX4_grow_97 : decode cX4_grow 97 = .ok (.iload_n 3, 1) := by decide +kernel
theorem dX4_grow_98 : decode cX4_grow 98 = .ok (.aload_n 1, 1) := by decide +kernel
theorem dX4_grow_99 : decode cX4_grow 99 = .ok (.iload 4, 2) := by decide +kernel
theorem dX4_grow_101 : decode cX4_grow 101 = .ok (.iconst 1, 1) := by decide +kernel
theorem dX4_grow_102 : decode cX4_grow 102 = .ok (.iadd, 1) := by decide +kernel
theorem dX4_grow_103 : decode cX4_grow 103 = .ok (.bipush 9, 2) := by decide +kernel
theorem dX4_grow_105 : decode cX4_grow 105 = .ok (.invokestatic 73, 3) := by decide +kernel
theorem dX4_grow_108 : decode cX4_grow 108 = .ok (.iastore, 1) := by decide +kernel
theorem dX4_grow_109 : decode cX4_grow 109 = .ok (.aload_n 0, 1) := by decide +kernel
theorem dX4_grow_110 : decode cX4_grow 110 = .ok (.getfield 18, 3) := by decide +kernel
theorem dX4_grow_113 : decode cX4_grow 113 = .ok (.iload_n 3, 1) := by decide +kernel
theorem dX4_grow_114 : decode cX4_grow 114 = .ok (.iconst 0, 1) := by decide +kernel
theorem dX4_grow_115 : decode cX4_grow 115 = .ok (.iastore, 1) := by decide +kernel
theorem dX4_grow_116 : decode cX4_grow 116 = .ok (.iinc 3 1, 3) := by decide +kernel
theorem dX4_grow_119 : decode cX4_grow 119 = .ok (.goto (-65), 3) := by decide +kernel
theorem dX4_grow_122 : decode cX4_grow 122 = .ok (.aload_n 0, 1) := by decide +kernel
theorem dX4_grow_123 : decode cX4_grow 123 = .ok (.invokevirtual 87, 3) := by decide +kernel
theorem dX4_grow_126 : decode cX4_grow 126 = .ok (.aload_n 0, 1) := by decide +kernel
theorem dX4_grow_127 : decode cX4_grow 127 = .ok (.getfield 38, 3) := by decide +kernel
theorem dX4_grow_130 : decode cX4_grow 130 = .ok (.iconst 2, 1) := by decide +kernel
theorem dX4_grow_131 : decode cX4_grow 131 = .ok (.isub, 1) := by decide +kernel
theorem dX4_grow_132 : decode cX4_grow 132 = .ok (.istore_n 3, 1) := by decide +kernel
theorem dX4_grow_133 : decode cX4_grow 133 = .ok (.iload_n 3, 1) := by decide +kernel
theorem dX4_grow_134 : decode cX4_grow 134 = .ok (.ifCond .lt 25, 3) := by decide +kernel
theorem dX4_grow_137 : decode cX4_grow 137 = .ok (.aload_n 0, 1) := by decide +kernel
theorem dX4_grow_138 : decode cX4_grow 138 = .ok (.aload_n 0, 1) := by decide +kernel
theorem dX4_grow_139 : decode cX4_grow 139 = .ok (.getfield 26, 3) := by decide +kernel
theorem dX4_grow_142 : decode cX4_grow 142 = .ok (.iload_n 3, 1) := by decide +kernel
theorem dX4_grow_143 : decode cX4_grow 143 = .ok (.iaload, 1) := by decide +kernel
theorem dX4_grow_144 : decode cX4_grow 144 = .ok (.aload_n 0, 1) := by decide +kernel
theorem dX4_grow_145 : decode cX4_grow 145 = .ok (.getfield 29, 3) := by decide +kernel
theorem dX4_grow_148 : decode cX4_grow 148 = .ok (.iload_n 3, 1) := by decide +kernel
theorem dX4_grow_149 : decode cX4_grow 149 = .ok (.iaload, 1) := by decide +kernel
theorem dX4_grow_150 : decode cX4_grow 150 = .ok (.invokevirtual 90, 3) := by decide +kernel
theorem dX4_grow_153 : decode cX4_grow 153 = .ok (.iinc 3 (-1), 3) := by decide +kernel
theorem dX4_grow_156 : decode cX4_grow 156 = .ok (.goto (-23), 3) := by decide +kernel
theorem dX4_grow_159 : decode cX4_grow 159 = .ok (.return_, 1) := by decide +kernel
theorem dX4_findTaken_0 : decode cX4_findTaken 0 = .ok (.iconst 1, 1) := by decide +kernel
theorem dX4_findTaken_1 : decode cX4_findTaken 1 = .ok (.aload_n 0, 1) := by decide +kernel
theorem dX4_findTaken_2 : decode cX4_findTaken 2 = .ok (.getfield 38, 3) := by decide +kernel
theorem dX4_findTaken_5 : decode cX4_findTaken 5 = .ok (.ishl, 1) := by decide +kernel
theorem dX4_findTaken_6 : decode cX4_findTaken 6 = .ok (.iconst 1, 1) := by decide +kernel
theorem dX4_findTaken_7 : decode cX4_findTaken 7 = .ok (.isub, 1) := by decide +kernel
theorem dX4_findTaken_8 : decode cX4_findTaken 8 = .ok (.istore_n 1, 1) := by decide +kernel
theorem dX4_findTaken_9 : decode cX4_findTaken 9 = .ok (.iconst 0, 1) := by decide +kernel
theorem dX4_findTaken_10 : decode cX4_findTaken 10 = .ok (.istore_n 2, 1) := by decide +kernel
theorem dX4_findTaken_11 : decode cX4_findTaken 11 = .ok (.iload_n 2, 1) := by decide +kernel
theorem dX4_findTaken_12 : decode cX4_findTaken 12 = .ok (.aload_n 0, 1) := by decide +kernel
theorem dX4_findTaken_13 : decode cX4_findTaken 13 = .ok (.getfield 38, 3) := by decide +kernel
theorem dX4_findTaken_16 : decode cX4_findTaken 16 = .ok (.iconst 2, 1) := by decide +kernel
theorem dX4_findTaken_17 : decode cX4_findTaken 17 = .ok (.isub, 1) := by decide +kernel
theorem dX4_findTaken_18 : decode cX4_findTaken 18 = .ok (.if_icmp .ge 40, 3) := by decide +kernel
theorem dX4_findTaken_21 : decode cX4_findTaken 21 = .ok (.aload_n 0, 1) := by decide +kernel
theorem dX4_findTaken_22 : decode cX4_findTaken 22 = .ok (.getfield 26, 3) := by decide +kernel
theorem dX4_findTaken_25 : decode cX4_findTaken 25 = .ok (.iload_n 2, 1) := by decide +kernel
theorem dX4_findTaken_26 : decode cX4_findTaken 26 = .ok (.iload_n 1, 1) := by decide +kernel
theorem dX4_findTaken_27 : decode cX4_findTaken 27 = .ok (.aload_n 0, 1) := by decide +kernel
theorem dX4_findTaken_28 : decode cX4_findTaken 28 = .ok (.iload_n 2, 1) := by decide +kernel
theorem dX4_findTaken_29 : decode cX4_findTaken 29 = .ok (.invokevirtual 94, 3) := by decide +kernel
theorem dX4_findTaken_32 : decode cX4_findTaken 32 = .ok (.iconst (-1), 1) := by decide +kernel
theorem dX4_findTaken_33 : decode cX4_findTaken 33 = .ok (.ixor, 1) := by decide +kernel
theorem dX4_findTaken_34 : decode cX4_findTaken 34 = .ok (.iand, 1) := by decide +kernel
theorem dX4_findTaken_35 : decode cX4_findTaken 35 = .ok (.invokestatic 97, 3) := by decide +kernel
theorem dX4_findTaken_38 : decode cX4_findTaken 38 = .ok (.iastore, 1) := by decide +kernel
theorem dX4_findTaken_39 : decode cX4_findTaken 39 = .ok (.iload_n 1, 1) := by decide +kernel
theorem dX4_findTaken_40 : decode cX4_findTaken 40 = .ok (.iconst 1, 1) := by decide +kernel
theorem dX4_findTaken_41 : decode cX4_findTaken 41 = .ok (.aload_n 0, 1) := by decide +kernel
theorem dX4_findTaken_42 : decode cX4_findTaken 42 = .ok (.getfield 26, 3) := by decide +kernel
theorem dX4_findTaken_45 : decode cX4_findTaken 45 = .ok (.iload_n 2, 1) := by decide +kernel
theorem dX4_findTaken_46 : decode cX4_findTaken 46 = .ok (.iaload, 1) := by decide +kernel
theorem dX4_findTaken_47 : decode cX4_findTaken 47 = .ok (.ishl, 1) := by decide +kernel
theorem dX4_findTaken_48 : decode cX4_findTaken 48 = .ok (.iconst (-1), 1) := by decide +kernel
theorem dX4_findTaken_49 : decode cX4_findTaken 49 = .ok (.ixor, 1) := by decide +kernel
theorem dX4_findTaken_50 : decode cX4_findTaken 50 = .ok (.iand, 1) := by decide +kernel
theorem dX4_findTaken_51 : decode cX4_findTaken 51 = .ok (.istore_n 1, 1) := by decide +kernel
theorem dX4_findTaken_52 : decode cX4_findTaken 52 = .ok (.iinc 2 1, 3) := by decide +kernel
theorem dX4_findTaken_55 : decode cX4_findTaken 55 = .ok (.goto (-44), 3) := by decide +kernel
theorem dX4_findTaken_58 : decode cX4_findTaken 58 = .ok (.aload_n 0, 1) := by decide +kernel
theorem dX4_findTaken_59 : decode cX4_findTaken 59 = .ok (.getfield 38, 3) := by decide +kernel
theorem dX4_findTaken_62 : decode cX4_findTaken 62 = .ok (.iconst 2, 1) := by decide +kernel
theorem dX4_findTaken_63 : decode cX4_findTaken 63 = .ok (.if_icmp .lt 49, 3) := by decide +kernel
theorem dX4_findTaken_66 : decode cX4_findTaken 66 = .ok (.aload_n 0, 1) := by decide +kernel
theorem dX4_findTaken_67 : decode cX4_findTaken 67 = .ok (.getfield 26, 3) := by decide +kernel
theorem dX4_findTaken_70 : decode cX4_findTaken 70 = .ok (.aload_n 0, 1) := by decide +kernel
theorem dX4_findTaken_71 : decode cX4_findTaken 71 = .ok (.getfield 38, 3) := by decide +kernel
theorem dX4_findTaken_74 : decode cX4_findTaken 74 = .ok (.iconst 2, 1) := by decide +kernel
theorem dX4_findTaken_75 : decode cX4_findTaken 75 = .ok (.isub, 1) := by decide +kernel
theorem dX4_findTaken_76 : decode cX4_findTaken 76 = .ok (.iload_n 1, 1) := by decide +kernel
theorem dX4_findTaken_77 : decode cX4_findTaken 77 = .ok (.invokestatic 97, 3) := by decide +kernel
theorem dX4_findTaken_80 : decode cX4_findTaken 80 = .ok (.iastore, 1) := by decide +kernel
theorem dX4_findTaken_81 : decode cX4_findTaken 81 = .ok (.aload_n 0, 1) := by decide +kernel
theorem dX4_findTaken_82 : decode cX4_findTaken 82 = .ok (.getfield 29, 3) := by decide +kernel
theorem dX4_findTaken_85 : decode cX4_findTaken 85 = .ok (.aload_n 0, 1) := by decide +kernel
theorem dX4_findTaken_86 : decode cX4_findTaken 86 = .ok (.getfield 38, 3) := by decide +kernel
theorem dX4_findTaken_89 : decode cX4_findTaken 89 = .ok (.iconst 2, 1) := by decide +kernel
theorem dX4_findTaken_90 : decode cX4_findTaken 90 = .ok (.isub, 1) := by decide +kernel
theorem dX4_findTaken_91 : decode cX4_findTaken 91 = .ok (.iload_n 1, 1) := by decide +kernel
theorem dX4_findTaken_92 : decode cX4_findTaken 92 = .ok (.iconst 1, 1) := by decide +kernel
theorem dX4_findTaken_93 : decode cX4_findTaken 93 = .ok (.aload_n 0, 1) := by decide +kernel
theorem dX4_findTaken_94 : decode cX4_findTaken 94 = .ok (.getfield 26, 3) := by decide +kernel
theorem dX4_findTaken_97 : decode cX4_findTaken 97 = .ok (.aload_n 0, 1) := by decide +kernel
theorem dX4_findTaken_98 : decode cX4_findTaken 98 = .ok (.getfield 38, 3) := by decide +kernel
theorem dX4_findTaken_101 : decode cX4_findTaken 101 = .ok (.iconst 2, 1) := by decide +kernel
theorem dX4_findTaken_102 : decode cX4_findTaken 102 = .ok (.isub, 1) := by decide +kernel
theorem dX4_findTaken_103 : decode cX4_findTaken 103 = .ok (.iaload, 1) := by decide +kernel
theorem dX4_findTaken_104 : decode cX4_findTaken 104 = .ok (.ishl, 1) := by decide +kernel
theorem dX4_findTaken_105 : decode cX4_findTaken 105 = .ok (.iconst (-1), 1) := by decide +kernel
theorem dX4_findTaken_106 : decode cX4_findTaken 106 = .ok (.ixor, 1) := by decide +kernel
theorem dX4_findTaken_107 : decode cX4_findTaken 107 = .ok (.iand, 1) := by decide +kernel
theorem dX4_findTaken_108 : decode cX4_findTaken 108 = .ok (.invokestatic 97, 3) := by decide +kernel
theorem dX4_findTaken_111 : decode cX4_findTaken 111 = .ok (.iastore, 1) := by decide +kernel
theorem dX4_findTaken_112 : decode cX4_findTaken 112 = .ok (.return_, 1) := by decide +kernel
theorem dX4_namedFrom_0 : decode cX4_namedFrom 0 = .ok (.iconst 0, 1) := by decide +kernel
theorem dX4_namedFrom_1 : decode cX4_namedFrom 1 = .ok (.istore_n 2, 1) := by decide +kernel
theorem dX4_namedFrom_2 : decode cX4_namedFrom 2 = .ok (.iload_n 1, 1) := by decide +kernel
theorem dX4_namedFrom_3 : decode cX4_namedFrom 3 = .ok (.istore_n 3, 1) := by decide +kernel
theorem dX4_namedFrom_4 : decode cX4_namedFrom 4 = .ok (.iload_n 3, 1) := by decide +kernel
theorem dX4_namedFrom_5 : decode cX4_namedFrom 5 = .ok (.aload_n 0, 1) := by decide +kernel
theorem dX4_namedFrom_6 : decode cX4_namedFrom 6 = .ok (.getfield 38, 3) := by decide +kernel
theorem dX4_namedFrom_9 : decode cX4_namedFrom 9 = .ok (.iconst 2, 1) := by decide +kernel
theorem dX4_namedFrom_10 : decode cX4_namedFrom 10 = .ok (.isub, 1) := by decide +kernel
theorem dX4_namedFrom_11 : decode cX4_namedFrom 11 = .ok (.if_icmp .ge 20, 3) := by decide +kernel
theorem dX4_namedFrom_14 : decode cX4_namedFrom 14 = .ok (.iload_n 2, 1) := by decide +kernel
theorem dX4_namedFrom_15 : decode cX4_namedFrom 15 = .ok (.iconst 1, 1) := by decide +kernel
theorem dX4_namedFrom_16 : decode cX4_namedFrom 16 = .ok (.aload_n 0, 1) := by decide +kernel
theorem dX4_namedFrom_17 : decode cX4_namedFrom 17 = .ok (.getfield 29, 3) := by decide +kernel
theorem dX4_namedFrom_20 : decode cX4_namedFrom 20 = .ok (.iload_n 3, 1) := by decide +kernel
theorem dX4_namedFrom_21 : decode cX4_namedFrom 21 = .ok (.iaload, 1) := by decide +kernel
theorem dX4_namedFrom_22 : decode cX4_namedFrom 22 = .ok (.ishl, 1) := by decide +kernel
theorem dX4_namedFrom_23 : decode cX4_namedFrom 23 = .ok (.ior, 1) := by decide +kernel
theorem dX4_namedFrom_24 : decode cX4_namedFrom 24 = .ok (.istore_n 2, 1) := by decide +kernel
theorem dX4_namedFrom_25 : decode cX4_namedFrom 25 = .ok (.iinc 3 1, 3) := by decide +kernel
theorem dX4_namedFrom_28 : decode cX4_namedFrom 28 = .ok (.goto (-24), 3) := by decide +kernel
theorem dX4_namedFrom_31 : decode cX4_namedFrom 31 = .ok (.iload_n 2, 1) := by decide +kernel
theorem dX4_namedFrom_32 : decode cX4_namedFrom 32 = .ok (.ireturn, 1) := by decide +kernel
theorem dX4_tie_0 : decode cX4_tie 0 = .ok (.aload_n 0, 1) := by decide +kernel
theorem dX4_tie_1 : decode cX4_tie 1 = .ok (.getfield 18, 3) := by decide +kernel
theorem dX4_tie_4 : decode cX4_tie 4 = .ok (.iload_n 1, 1) := by decide +kernel
theorem dX4_tie_5 : decode cX4_tie 5 = .ok (.dup2, 1) := by decide +kernel
theorem dX4_tie_6 : decode cX4_tie 6 = .ok (.iaload, 1) := by decide +kernel
theorem dX4_tie_7 : decode cX4_tie 7 = .ok (.iconst 1, 1) := by decide +kernel
theorem dX4_tie_8 : decode cX4_tie 8 = .ok (.iload_n 2, 1) := by decide +kernel
theorem dX4_tie_9 : decode cX4_tie 9 = .ok (.ishl, 1) := by decide +kernel
theorem dX4_tie_10 : decode cX4_tie 10 = .ok (.ior, 1) := by decide +kernel
theorem dX4_tie_11 : decode cX4_tie 11 = .ok (.iastore, 1) := by decide +kernel
theorem dX4_tie_12 : decode cX4_tie 12 = .ok (.aload_n 0, 1) := by decide +kernel
theorem dX4_tie_13 : decode cX4_tie 13 = .ok (.getfield 18, 3) := by decide +kernel
theorem dX4_tie_16 : decode cX4_tie 16 = .ok (.iload_n 2, 1) := by decide +kernel
theorem dX4_tie_17 : decode cX4_tie 17 = .ok (.dup2, 1) := by decide +kernel
theorem dX4_tie_18 : decode cX4_tie 18 = .ok (.iaload, 1) := by decide +kernel
theorem dX4_tie_19 : decode cX4_tie 19 = .ok (.iconst 1, 1) := by decide +kernel
theorem dX4_tie_20 : decode cX4_tie 20 = .ok (.iload_n 1, 1) := by decide +kernel
theorem dX4_tie_21 : decode cX4_tie 21 = .ok (.ishl, 1) := by decide +kernel
theorem dX4_tie_22 : decode cX4_tie 22 = .ok (.ior, 1) := by decide +kernel
theorem dX4_tie_23 : decode cX4_tie 23 = .ok (.iastore, 1) := by decide +kernel
theorem dX4_tie_24 : decode cX4_tie 24 = .ok (.iconst 0, 1) := by decide +kernel
theorem dX4_tie_25 : decode cX4_tie 25 = .ok (.istore_n 3, 1) := by decide +kernel
theorem dX4_tie_26 : decode cX4_tie 26 = .ok (.iload_n 3, 1) := by decide +kernel
theorem dX4_tie_27 : decode cX4_tie 27 = .ok (.aload_n 0, 1) := by decide +kernel
theorem dX4_tie_28 : decode cX4_tie 28 = .ok (.getfield 38, 3) := by decide +kernel
theorem dX4_tie_31 : decode cX4_tie 31 = .ok (.if_icmp .ge 48, 3) := by decide +kernel
theorem dX4_tie_34 : decode cX4_tie 34 = .ok (.iload_n 3, 1) := by decide +kernel
theorem dX4_tie_35 : decode cX4_tie 35 = .ok (.iload_n 1, 1) := by decide +kernel
theorem dX4_tie_36 : decode cX4_tie 36 = .ok (.if_icmp .eq 37, 3) := by decide +kernel
theorem dX4_tie_39 : decode cX4_tie 39 = .ok (.aload_n 0, 1) := by decide +kernel
theorem dX4_tie_40 : decode cX4_tie 40 = .ok (.getfield 23, 3) := by decide +kernel
theorem dX4_tie_43 : decode cX4_tie 43 = .ok (.iload_n 1, 1) := by decide +kernel
theorem dX4_tie_44 : decode cX4_tie 44 = .ok (.aaload, 1) := by decide +kernel
theorem dX4_tie_45 : decode cX4_tie 45 = .ok (.iload_n 3, 1) := by decide +kernel
theorem dX4_tie_46 : decode cX4_tie 46 = .ok (.aload_n 0, 1) := by decide +kernel
theorem dX4_tie_47 : decode cX4_tie 47 = .ok (.getfield 23, 3) := by decide +kernel
theorem dX4_tie_50 : decode cX4_tie 50 = .ok (.iload_n 2, 1) := by decide +kernel
theorem dX4_tie_51 : decode cX4_tie 51 = .ok (.aaload, 1) := by decide +kernel
theorem dX4_tie_52 : decode cX4_tie 52 = .ok (.iload_n 3, 1) := by decide +kernel
theorem dX4_tie_53 : decode cX4_tie 53 = .ok (.iaload, 1) := by decide +kernel
theorem dX4_tie_54 : decode cX4_tie 54 = .ok (.iconst 1, 1) := by decide +kernel
theorem dX4_tie_55 : decode cX4_tie 55 = .ok (.iadd, 1) := by decide +kernel
theorem dX4_tie_56 : decode cX4_tie 56 = .ok (.iastore, 1) := by decide +kernel
theorem dX4_tie_57 : decode cX4_tie 57 = .ok (.aload_n 0, 1) := by decide +kernel
theorem dX4_tie_58 : decode cX4_tie 58 = .ok (.getfield 23, 3) := by decide +kernel
theorem dX4_tie_61 : decode cX4_tie 61 = .ok (.iload_n 3, 1) := by decide +kernel
theorem dX4_tie_62 : decode cX4_tie 62 = .ok (.aaload, 1) := by decide +kernel
theorem dX4_tie_63 : decode cX4_tie 63 = .ok (.iload_n 1, 1) := by decide +kernel
theorem dX4_tie_64 : decode cX4_tie 64 = .ok (.aload_n 0, 1) := by decide +kernel
theorem dX4_tie_65 : decode cX4_tie 65 = .ok (.getfield 23, 3) := by decide +kernel
theorem dX4_tie_68 : decode cX4_tie 68 = .ok (.iload_n 1, 1) := by decide +kernel
theorem dX4_tie_69 : decode cX4_tie 69 = .ok (.aaload, 1) := by decide +kernel
theorem dX4_tie_70 : decode cX4_tie 70 = .ok (.iload_n 3, 1) := by decide +kernel
theorem dX4_tie_71 : decode cX4_tie 71 = .ok (.iaload, 1) := by decide +kernel
theorem dX4_tie_72 : decode cX4_tie 72 = .ok (.iastore, 1) := by decide +kernel
theorem dX4_tie_73 : decode cX4_tie 73 = .ok (.iinc 3 1, 3) := by decide +kernel
theorem dX4_tie_76 : decode cX4_tie 76 = .ok (.goto (-50), 3) := by decide +kernel
theorem dX4_tie_79 : decode cX4_tie 79 = .ok (.return_, 1) := by decide +kernel
theorem dX4_hangOn_0 : decode cX4_hangOn 0 = .ok (.aload_n 0, 1) := by decide +kernel
theorem dX4_hangOn_1 : decode cX4_hangOn 1 = .ok (.getfield 18, 3) := by decide +kernel
theorem dX4_hangOn_4 : decode cX4_hangOn 4 = .ok (.iload_n 1, 1) := by decide +kernel
theorem dX4_hangOn_5 : decode cX4_hangOn 5 = .ok (.iaload, 1) := by decide +kernel
theorem dX4_hangOn_6 : decode cX4_hangOn 6 = .ok (.invokestatic 97, 3) := by decide +kernel
theorem dX4_hangOn_9 : decode cX4_hangOn 9 = .ok (.istore_n 3, 1) := by decide +kernel
theorem dX4_hangOn_10 : decode cX4_hangOn 10 = .ok (.aload_n 0, 1) := by decide +kernel
theorem dX4_hangOn_11 : decode cX4_hangOn 11 = .ok (.getfield 18, 3) := by decide +kernel
theorem dX4_hangOn_14 : decode cX4_hangOn 14 = .ok (.iload_n 3, 1) := by decide +kernel
theorem dX4_hangOn_15 : decode cX4_hangOn 15 = .ok (.dup2, 1) := by decide +kernel
theorem dX4_hangOn_16 : decode cX4_hangOn 16 = .ok (.iaload, 1) := by decide +kernel
theorem dX4_hangOn_17 : decode cX4_hangOn 17 = .ok (.iconst 1, 1) := by decide +kernel
theorem dX4_hangOn_18 : decode cX4_hangOn 18 = .ok (.iload_n 1, 1) := by decide +kernel
theorem dX4_hangOn_19 : decode cX4_hangOn 19 = .ok (.ishl, 1) := by decide +kernel
theorem dX4_hangOn_20 : decode cX4_hangOn 20 = .ok (.iconst (-1), 1) := by decide +kernel
theorem dX4_hangOn_21 : decode cX4_hangOn 21 = .ok (.ixor, 1) := by decide +kernel
theorem dX4_hangOn_22 : decode cX4_hangOn 22 = .ok (.iand, 1) := by decide +kernel
theorem dX4_hangOn_23 : decode cX4_hangOn 23 = .ok (.iastore, 1) := by decide +kernel
theorem dX4_hangOn_24 : decode cX4_hangOn 24 = .ok (.aload_n 0, 1) := by decide +kernel
theorem dX4_hangOn_25 : decode cX4_hangOn 25 = .ok (.getfield 18, 3) := by decide +kernel
theorem dX4_hangOn_28 : decode cX4_hangOn 28 = .ok (.iload_n 1, 1) := by decide +kernel
theorem dX4_hangOn_29 : decode cX4_hangOn 29 = .ok (.iconst 0, 1) := by decide +kernel
theorem dX4_hangOn_30 : decode cX4_hangOn 30 = .ok (.iastore, 1) := by decide +kernel
theorem dX4_hangOn_31 : decode cX4_hangOn 31 = .ok (.aload_n 0, 1) := by decide +kernel
theorem dX4_hangOn_32 : decode cX4_hangOn 32 = .ok (.iload_n 1, 1) := by decide +kernel
theorem dX4_hangOn_33 : decode cX4_hangOn 33 = .ok (.iload_n 2, 1) := by decide +kernel
theorem dX4_hangOn_34 : decode cX4_hangOn 34 = .ok (.invokevirtual 90, 3) := by decide +kernel
theorem dX4_hangOn_37 : decode cX4_hangOn 37 = .ok (.iload_n 3, 1) := by decide +kernel
theorem dX4_hangOn_38 : decode cX4_hangOn 38 = .ok (.ireturn, 1) := by decide +kernel
theorem dX4_strip_0 : decode cX4_strip 0 = .ok (.iconst 1, 1) := by decide +kernel
theorem dX4_strip_1 : decode cX4_strip 1 = .ok (.aload_n 0, 1) := by decide +kernel
theorem dX4_strip_2 : decode cX4_strip 2 = .ok (.getfield 38, 3) := by decide +kernel
theorem dX4_strip_5 : decode cX4_strip 5 = .ok (.ishl, 1) := by decide +kernel
theorem dX4_strip_6 : decode cX4_strip 6 = .ok (.iconst 1, 1) := by decide +kernel
theorem dX4_strip_7 : decode cX4_strip 7 = .ok (.isub, 1) := by decide +kernel
theorem dX4_strip_8 : decode cX4_strip 8 = .ok (.istore_n 1, 1) := by decide +kernel
theorem dX4_strip_9 : decode cX4_strip 9 = .ok (.iconst 0, 1) := by decide +kernel
theorem dX4_strip_10 : decode cX4_strip 10 = .ok (.istore_n 2, 1) := by decide +kernel
theorem dX4_strip_11 : decode cX4_strip 11 = .ok (.iload_n 2, 1) := by decide +kernel
theorem dX4_strip_12 : decode cX4_strip 12 = .ok (.aload_n 0, 1) := by decide +kernel
theorem dX4_strip_13 : decode cX4_strip 13 = .ok (.getfield 38, 3) := by decide +kernel
theorem dX4_strip_16 : decode cX4_strip 16 = .ok (.iconst 1, 1) := by decide +kernel
theorem dX4_strip_17 : decode cX4_strip 17 = .ok (.isub, 1) := by decide +kernel
theorem dX4_strip_18 : decode cX4_strip 18 = .ok (.if_icmp .ge 55, 3) := by decide +kernel
theorem dX4_strip_21 : decode cX4_strip 21 = .ok (.aload_n 0, 1) := by decide +kernel
theorem dX4_strip_22 : decode cX4_strip 22 = .ok (.getfield 26, 3) := by decide +kernel
theorem dX4_strip_25 : decode cX4_strip 25 = .ok (.iload_n 2, 1) := by decide +kernel
theorem dX4_strip_26 : decode cX4_strip 26 = .ok (.aload_n 0, 1) := by decide +kernel
theorem dX4_strip_27 : decode cX4_strip 27 = .ok (.iload_n 1, 1) := by decide +kernel
theorem dX4_strip_28 : decode cX4_strip 28 = .ok (.invokevirtual 100, 3) := by decide +kernel
theorem dX4_strip_31 : decode cX4_strip 31 = .ok (.iastore, 1) := by decide +kernel
theorem dX4_strip_32 : decode cX4_strip 32 = .ok (.aload_n 0, 1) := by decide +kernel
theorem dX4_strip_33 : decode cX4_strip 33 = .ok (.getfield 29, 3) := by decide +kernel
theorem dX4_strip_36 : decode cX4_strip 36 = .ok (.iload_n 2, 1) := by decide +kernel
theorem dX4_strip_37 : decode cX4_strip 37 = .ok (.aload_n 0, 1) := by decide +kernel
theorem dX4_strip_38 : decode cX4_strip 38 = .ok (.getfield 18, 3) := by decide +kernel
theorem dX4_strip_41 : decode cX4_strip 41 = .ok (.aload_n 0, 1) := by decide +kernel
theorem dX4_strip_42 : decode cX4_strip 42 = .ok (.getfield 26, 3) := by decide +kernel
theorem dX4_strip_45 : decode cX4_strip 45 = .ok (.iload_n 2, 1) := by decide +kernel
theorem dX4_strip_46 : decode cX4_strip 46 = .ok (.iaload, 1) := by decide +kernel
theorem dX4_strip_47 : decode cX4_strip 47 = .ok (.iaload, 1) := by decide +kernel
theorem dX4_strip_48 : decode cX4_strip 48 = .ok (.iload_n 1, 1) := by decide +kernel
theorem dX4_strip_49 : decode cX4_strip 49 = .ok (.iand, 1) := by decide +kernel
theorem dX4_strip_50 : decode cX4_strip 50 = .ok (.invokestatic 97, 3) := by decide +kernel
theorem dX4_strip_53 : decode cX4_strip 53 = .ok (.iastore, 1) := by decide +kernel
theorem dX4_strip_54 : decode cX4_strip 54 = .ok (.iload_n 1, 1) := by decide +kernel
theorem dX4_strip_55 : decode cX4_strip 55 = .ok (.iconst 1, 1) := by decide +kernel
theorem dX4_strip_56 : decode cX4_strip 56 = .ok (.aload_n 0, 1) := by decide +kernel
theorem dX4_strip_57 : decode cX4_strip 57 = .ok (.getfield 26, 3) := by decide +kernel
theorem dX4_strip_60 : decode cX4_strip 60 = .ok (.iload_n 2, 1) := by decide +kernel
theorem dX4_strip_61 : decode cX4_strip 61 = .ok (.iaload, 1) := by decide +kernel
theorem dX4_strip_62 : decode cX4_strip 62 = .ok (.ishl, 1) := by decide +kernel
theorem dX4_strip_63 : decode cX4_strip 63 = .ok (.iconst (-1), 1) := by decide +kernel
theorem dX4_strip_64 : decode cX4_strip 64 = .ok (.ixor, 1) := by decide +kernel
theorem dX4_strip_65 : decode cX4_strip 65 = .ok (.iand, 1) := by decide +kernel
theorem dX4_strip_66 : decode cX4_strip 66 = .ok (.istore_n 1, 1) := by decide +kernel
theorem dX4_strip_67 : decode cX4_strip 67 = .ok (.iinc 2 1, 3) := by decide +kernel
theorem dX4_strip_70 : decode cX4_strip 70 = .ok (.goto (-59), 3) := by decide +kernel
theorem dX4_strip_73 : decode cX4_strip 73 = .ok (.return_, 1) := by decide +kernel
theorem dX4_leastEnd_0 : decode cX4_leastEnd 0 = .ok (.iconst 0, 1) := by decide +kernel
theorem dX4_leastEnd_1 : decode cX4_leastEnd 1 = .ok (.istore_n 2, 1) := by decide +kernel
theorem dX4_leastEnd_2 : decode cX4_leastEnd 2 = .ok (.iload_n 2, 1) := by decide +kernel
theorem dX4_leastEnd_3 : decode cX4_leastEnd 3 = .ok (.aload_n 0, 1) := by decide +kernel
theorem dX4_leastEnd_4 : decode cX4_leastEnd 4 = .ok (.getfield 38, 3) := by decide +kernel
theorem dX4_leastEnd_7 : decode cX4_leastEnd 7 = .ok (.if_icmp .ge 34, 3) := by decide +kernel
theorem dX4_leastEnd_10 : decode cX4_leastEnd 10 = .ok (.iload_n 1, 1) := by decide +kernel
theorem dX4_leastEnd_11 : decode cX4_leastEnd 11 = .ok (.iload_n 2, 1) := by decide +kernel
theorem dX4_leastEnd_12 : decode cX4_leastEnd 12 = .ok (.ishr, 1) := by decide +kernel
theorem dX4_leastEnd_13 : decode cX4_leastEnd 13 = .ok (.iconst 1, 1) := by decide +kernel
theorem dX4_leastEnd_14 : decode cX4_leastEnd 14 = .ok (.iand, 1) := by decide +kernel
theorem dX4_leastEnd_15 : decode cX4_leastEnd 15 = .ok (.ifCond .eq 20, 3) := by decide +kernel
theorem dX4_leastEnd_18 : decode cX4_leastEnd 18 = .ok (.aload_n 0, 1) := by decide +kernel
theorem dX4_leastEnd_19 : decode cX4_leastEnd 19 = .ok (.getfield 18, 3) := by decide +kernel
theorem dX4_leastEnd_22 : decode cX4_leastEnd 22 = .ok (.iload_n 2, 1) := by decide +kernel
theorem dX4_leastEnd_23 : decode cX4_leastEnd 23 = .ok (.iaload, 1) := by decide +kernel
theorem dX4_leastEnd_24 : decode cX4_leastEnd 24 = .ok (.iload_n 1, 1) := by decide +kernel
theorem dX4_leastEnd_25 : decode cX4_leastEnd 25 = .ok (.iand, 1) := by decide +kernel
theorem dX4_leastEnd_26 : decode cX4_leastEnd 26 = .ok (.invokestatic 42, 3) := by decide +kernel
theorem dX4_leastEnd_29 : decode cX4_leastEnd 29 = .ok (.iconst 1, 1) := by decide +kernel
theorem dX4_leastEnd_30 : decode cX4_leastEnd 30 = .ok (.if_icmp .ne 5, 3) := by decide +kernel
theorem dX4_leastEnd_33 : decode cX4_leastEnd 33 = .ok (.iload_n 2, 1) := by decide +kernel
theorem dX4_leastEnd_34 : decode cX4_leastEnd 34 = .ok (.ireturn, 1) := by decide +kernel
theorem dX4_leastEnd_35 : decode cX4_leastEnd 35 = .ok (.iinc 2 1, 3) := by decide +kernel
theorem dX4_leastEnd_38 : decode cX4_leastEnd 38 = .ok (.goto (-36), 3) := by decide +kernel
theorem dX4_leastEnd_41 : decode cX4_leastEnd 41 = .ok (.iconst 0, 1) := by decide +kernel
theorem dX4_leastEnd_42 : decode cX4_leastEnd 42 = .ok (.ireturn, 1) := by decide +kernel
theorem dX4_numberOfRow_0 : decode cX4_numberOfRow 0 = .ok (.aload_n 0, 1) := by decide +kernel
theorem dX4_numberOfRow_1 : decode cX4_numberOfRow 1 = .ok (.invokevirtual 103, 3) := by decide +kernel
theorem dX4_numberOfRow_4 : decode cX4_numberOfRow 4 = .ok (.iconst 0, 1) := by decide +kernel
theorem dX4_numberOfRow_5 : decode cX4_numberOfRow 5 = .ok (.istore_n 1, 1) := by decide +kernel
theorem dX4_numberOfRow_6 : decode cX4_numberOfRow 6 = .ok (.iconst 0, 1) := by decide +kernel
theorem dX4_numberOfRow_7 : decode cX4_numberOfRow 7 = .ok (.istore_n 2, 1) := by decide +kernel
theorem dX4_numberOfRow_8 : decode cX4_numberOfRow 8 = .ok (.iload_n 2, 1) := by decide +kernel
theorem dX4_numberOfRow_9 : decode cX4_numberOfRow 9 = .ok (.aload_n 0, 1) := by decide +kernel
theorem dX4_numberOfRow_10 : decode cX4_numberOfRow 10 = .ok (.getfield 38, 3) := by decide +kernel
theorem dX4_numberOfRow_13 : decode cX4_numberOfRow 13 = .ok (.iconst 2, 1) := by decide +kernel
theorem dX4_numberOfRow_14 : decode cX4_numberOfRow 14 = .ok (.isub, 1) := by decide +kernel
theorem dX4_numberOfRow_15 : decode cX4_numberOfRow 15 = .ok (.if_icmp .ge 23, 3) := by decide +kernel
theorem dX4_numberOfRow_18 : decode cX4_numberOfRow 18 = .ok (.iload_n 1, 1) := by decide +kernel
theorem dX4_numberOfRow_19 : decode cX4_numberOfRow 19 = .ok (.aload_n 0, 1) := by decide +kernel
theorem dX4_numberOfRow_20 : decode cX4_numberOfRow 20 = .ok (.getfield 38, 3) := by decide +kernel
theorem dX4_numberOfRow_23 : decode cX4_numberOfRow 23 = .ok (.imul, 1) := by decide +kernel
theorem dX4_numberOfRow_24 : decode cX4_numberOfRow 24 = .ok (.aload_n 0, 1) := by decide +kernel
theorem dX4_numberOfRow_25 : decode cX4_numberOfRow 25 = .ok (.getfield 29, 3) := by decide +kernel
theorem dX4_numberOfRow_28 : decode cX4_numberOfRow 28 = .ok (.iload_n 2, 1) := by decide +kernel
theorem dX4_numberOfRow_29 : decode cX4_numberOfRow 29 = .ok (.iaload, 1) := by decide +kernel
theorem dX4_numberOfRow_30 : decode cX4_numberOfRow 30 = .ok (.iadd, 1) := by decide +kernel
theorem dX4_numberOfRow_31 : decode cX4_numberOfRow 31 = .ok (.istore_n 1, 1) := by decide +kernel
theorem dX4_numberOfRow_32 : decode cX4_numberOfRow 32 = .ok (.iinc 2 1, 3) := by decide +kernel
theorem dX4_numberOfRow_35 : decode cX4_numberOfRow 35 = .ok (.goto (-27), 3) := by decide +kernel
theorem dX4_numberOfRow_38 : decode cX4_numberOfRow 38 = .ok (.iload_n 1, 1) := by decide +kernel
theorem dX4_numberOfRow_39 : decode cX4_numberOfRow 39 = .ok (.ireturn, 1) := by decide +kernel
theorem dX4_twigsApart_0 : decode cX4_twigsApart 0 = .ok (.aload_n 0, 1) := by decide +kernel
theorem dX4_twigsApart_1 : decode cX4_twigsApart 1 = .ok (.invokevirtual 103, 3) := by decide +kernel
theorem dX4_twigsApart_4 : decode cX4_twigsApart 4 = .ok (.iconst 0, 1) := by decide +kernel
theorem dX4_twigsApart_5 : decode cX4_twigsApart 5 = .ok (.istore_n 1, 1) := by decide +kernel
theorem dX4_twigsApart_6 : decode cX4_twigsApart 6 = .ok (.iconst 0, 1) := by decide +kernel
theorem dX4_twigsApart_7 : decode cX4_twigsApart 7 = .ok (.istore_n 2, 1) := by decide +kernel
theorem dX4_twigsApart_8 : decode cX4_twigsApart 8 = .ok (.iconst 0, 1) := by decide +kernel
theorem dX4_twigsApart_9 : decode cX4_twigsApart 9 = .ok (.istore_n 3, 1) := by decide +kernel
theorem dX4_twigsApart_10 : decode cX4_twigsApart 10 = .ok (.iload_n 3, 1) := by decide +kernel
theorem dX4_twigsApart_11 : decode cX4_twigsApart 11 = .ok (.aload_n 0, 1) := by decide +kernel
theorem dX4_twigsApart_12 : decode cX4_twigsApart 12 = .ok (.getfield 38, 3) := by decide +kernel
theorem dX4_twigsApart_15 : decode cX4_twigsApart 15 = .ok (.iconst 1, 1) := by decide +kernel
theorem dX4_twigsApart_16 : decode cX4_twigsApart 16 = .ok (.isub, 1) := by decide +kernel
theorem dX4_twigsApart_17 : decode cX4_twigsApart 17 = .ok (.if_icmp .ge 43, 3) := by decide +kernel
theorem dX4_twigsApart_20 : decode cX4_twigsApart 20 = .ok (.iconst 1, 1) := by decide +kernel
theorem dX4_twigsApart_21 : decode cX4_twigsApart 21 = .ok (.aload_n 0, 1) := by decide +kernel
theorem dX4_twigsApart_22 : decode cX4_twigsApart 22 = .ok (.getfield 26, 3) := by decide +kernel
theorem dX4_twigsApart_25 : decode cX4_twigsApart 25 = .ok (.iload_n 3, 1) := by decide +kernel
theorem dX4_twigsApart_26 : decode cX4_twigsApart 26 = .ok (.iaload, 1) := by decide +kernel
theorem dX4_twigsApart_27 : decode cX4_twigsApart 27 = .ok (.ishl, 1) := by decide +kernel
theorem dX4_twigsApart_28 : decode cX4_twigsApart 28 = .ok (.iconst 1, 1) := by decide +kernel
theorem dX4_twigsApart_29 : decode cX4_twigsApart 29 = .ok (.aload_n 0, 1) := by decide +kernel
theorem dX4_twigsApart_30 : decode cX4_twigsApart 30 = .ok (.getfield 29, 3) := by decide +kernel
theorem dX4_twigsApart_33 : decode cX4_twigsApart 33 = .ok (.iload_n 3, 1) := by decide +kernel
theorem dX4_twigsApart_34 : decode cX4_twigsApart 34 = .ok (.iaload, 1) := by decide +kernel
theorem dX4_twigsApart_35 : decode cX4_twigsApart 35 = .ok (.ishl, 1) := by decide +kernel
theorem dX4_twigsApart_36 : decode cX4_twigsApart 36 = .ok (.ior, 1) := by decide +kernel
theorem dX4_twigsApart_37 : decode cX4_twigsApart 37 = .ok (.istore 4, 2) := by decide +kernel
theorem dX4_twigsApart_39 : decode cX4_twigsApart 39 = .ok (.iload_n 1, 1) := by decide +kernel
theorem dX4_twigsApart_40 : decode cX4_twigsApart 40 = .ok (.iload 4, 2) := by decide +kernel
theorem dX4_twigsApart_42 : decode cX4_twigsApart 42 = .ok (.iand, 1) := by decide +kernel
theorem dX4_twigsApart_43 : decode cX4_twigsApart 43 = .ok (.ifCond .ne 11, 3) := by decide +kernel
theorem dX4_twigsApart_46 : decode cX4_twigsApart 46 = .ok (.iload_n 1, 1) := by decide +kernel
theorem dX4_twigsApart_47 : decode cX4_twigsApart 47 = .ok (.iload 4, 2) := by decide +kernel
theorem dX4_twigsApart_49 : decode cX4_twigsApart 49 = .ok (.ior, 1) := by decide +kernel
theorem dX4_twigsApart_50 : decode cX4_twigsApart 50 = .ok (.istore_n 1, 1) := by decide +kernel
theorem dX4_twigsApart_51 : decode cX4_twigsApart 51 = .ok (.iinc 2 1, 3) := by decide +kernel
theorem dX4_twigsApart_54 : decode cX4_twigsApart 54 = .ok (.iinc 3 1, 3) := by decide +kernel
theorem dX4_twigsApart_57 : decode cX4_twigsApart 57 = .ok (.goto (-47), 3) := by decide +kernel
theorem dX4_twigsApart_60 : decode cX4_twigsApart 60 = .ok (.iload_n 2, 1) := by decide +kernel
theorem dX4_twigsApart_61 : decode cX4_twigsApart 61 = .ok (.ireturn, 1) := by decide +kernel
theorem dX4_bestApart_0 : decode cX4_bestApart 0 = .ok (.aload_n 0, 1) := by decide +kernel
theorem dX4_bestApart_1 : decode cX4_bestApart 1 = .ok (.invokevirtual 103, 3) := by decide +kernel
theorem dX4_bestApart_4 : decode cX4_bestApart 4 = .ok (.iconst 0, 1) := by decide +kernel
theorem dX4_bestApart_5 : decode cX4_bestApart 5 = .ok (.istore_n 1, 1) := by decide +kernel
theorem dX4_bestApart_6 : decode cX4_bestApart 6 = .ok (.iload_n 1, 1) := by decide +kernel
theorem dX4_bestApart_7 : decode cX4_bestApart 7 = .ok (.aload_n 0, 1) := by decide +kernel
theorem dX4_bestApart_8 : decode cX4_bestApart 8 = .ok (.getfield 38, 3) := by decide +kernel
theorem dX4_bestApart_11 : decode cX4_bestApart 11 = .ok (.if_icmp .ge 35, 3) := by decide +kernel
theorem dX4_bestApart_14 : decode cX4_bestApart 14 = .ok (.aload_n 0, 1) := by decide +kernel
theorem dX4_bestApart_15 : decode cX4_bestApart 15 = .ok (.getfield 32, 3) := by decide +kernel
theorem dX4_bestApart_18 : decode cX4_bestApart 18 = .ok (.iload_n 1, 1) := by decide +kernel
theorem dX4_bestApart_19 : decode cX4_bestApart 19 = .ok (.sipush 256, 3) := by decide +kernel
theorem dX4_bestApart_22 : decode cX4_bestApart 22 = .ok (.aload_n 0, 1) := by decide +kernel
theorem dX4_bestApart_23 : decode cX4_bestApart 23 = .ok (.iload_n 1, 1) := by decide +kernel
theorem dX4_bestApart_24 : decode cX4_bestApart 24 = .ok (.invokevirtual 52, 3) := by decide +kernel
theorem dX4_bestApart_27 : decode cX4_bestApart 27 = .ok (.imul, 1) := by decide +kernel
theorem dX4_bestApart_28 : decode cX4_bestApart 28 = .ok (.iconst 1, 1) := by decide +kernel
theorem dX4_bestApart_29 : decode cX4_bestApart 29 = .ok (.iload_n 1, 1) := by decide +kernel
theorem dX4_bestApart_30 : decode cX4_bestApart 30 = .ok (.ishl, 1) := by decide +kernel
theorem dX4_bestApart_31 : decode cX4_bestApart 31 = .ok (.isub, 1) := by decide +kernel
theorem dX4_bestApart_32 : decode cX4_bestApart 32 = .ok (.iastore, 1) := by decide +kernel
theorem dX4_bestApart_33 : decode cX4_bestApart 33 = .ok (.aload_n 0, 1) := by decide +kernel
theorem dX4_bestApart_34 : decode cX4_bestApart 34 = .ok (.getfield 35, 3) := by decide +kernel
theorem dX4_bestApart_37 : decode cX4_bestApart 37 = .ok (.iload_n 1, 1) := by decide +kernel
theorem dX4_bestApart_38 : decode cX4_bestApart 38 = .ok (.iconst 0, 1) := by decide +kernel
theorem dX4_bestApart_39 : decode cX4_bestApart 39 = .ok (.iastore, 1) := by decide +kernel
theorem dX4_bestApart_40 : decode cX4_bestApart 40 = .ok (.iinc 1 1, 3) := by decide +kernel
theorem dX4_bestApart_43 : decode cX4_bestApart 43 = .ok (.goto (-37), 3) := by decide +kernel
theorem dX4_bestApart_46 : decode cX4_bestApart 46 = .ok (.iconst 0, 1) := by decide +kernel
theorem dX4_bestApart_47 : decode cX4_bestApart 47 = .ok (.istore_n 1, 1) := by decide +kernel
theorem dX4_bestApart_48 : decode cX4_bestApart 48 = .ok (.iconst 0, 1) := by decide +kernel
theorem dX4_bestApart_49 : decode cX4_bestApart 49 = .ok (.istore_n 2, 1) := by decide +kernel
theorem dX4_bestApart_50 : decode cX4_bestApart 50 = .ok (.iload_n 2, 1) := by decide +kernel
theorem dX4_bestApart_51 : decode cX4_bestApart 51 = .ok (.aload_n 0, 1) := by decide +kernel
theorem dX4_bestApart_52 : decode cX4_bestApart 52 = .ok (.getfield 38, 3) := by decide +kernel
theorem dX4_bestApart_55 : decode cX4_bestApart 55 = .ok (.iconst 1, 1) := by decide +kernel
theorem dX4_bestApart_56 : decode cX4_bestApart 56 = .ok (.isub, 1) := by decide +kernel
theorem dX4_bestApart_57 : decode cX4_bestApart 57 = .ok (.if_icmp .ge 62, 3) := by decide +kernel
theorem dX4_bestApart_60 : decode cX4_bestApart 60 = .ok (.aload_n 0, 1) := by decide +kernel
theorem dX4_bestApart_61 : decode cX4_bestApart 61 = .ok (.getfield 26, 3) := by decide +kernel
theorem dX4_bestApart_64 : decode cX4_bestApart 64 = .ok (.iload_n 2, 1) := by decide +kernel
theorem dX4_bestApart_65 : decode cX4_bestApart 65 = .ok (.iaload, 1) := by decide +kernel
theorem dX4_bestApart_66 : decode cX4_bestApart 66 = .ok (.istore_n 3, 1) := by decide +kernel
theorem dX4_bestApart_67 : decode cX4_bestApart 67 = .ok (.aload_n 0, 1) := by decide +kernel
theorem dX4_bestApart_68 : decode cX4_bestApart 68 = .ok (.getfield 29, 3) := by decide +kernel
theorem dX4_bestApart_71 : decode cX4_bestApart 71 = .ok (.iload_n 2, 1) := by decide +kernel
theorem dX4_bestApart_72 : decode cX4_bestApart 72 = .ok (.iaload, 1) := by decide +kernel
theorem dX4_bestApart_73 : decode cX4_bestApart 73 = .ok (.istore_n 1, 1) := by decide +kernel
theorem dX4_bestApart_74 : decode cX4_bestApart 74 = .ok (.aload_n 0, 1) := by decide +kernel
theorem dX4_bestApart_75 : decode cX4_bestApart 75 = .ok (.getfield 32, 3) := by decide +kernel
theorem dX4_bestApart_78 : decode cX4_bestApart 78 = .ok (.iload_n 1, 1) := by decide +kernel
theorem dX4_bestApart_79 : decode cX4_bestApart 79 = .ok (.dup2, 1) := by decide +kernel
theorem dX4_bestApart_80 : decode cX4_bestApart 80 = .ok (.iaload, 1) := by decide +kernel
theorem dX4_bestApart_81 : decode cX4_bestApart 81 = .ok (.aload_n 0, 1) := by decide +kernel
theorem dX4_bestApart_82 : decode cX4_bestApart 82 = .ok (.getfield 35, 3) := by decide +kernel
theorem dX4_bestApart_85 : decode cX4_bestApart 85 = .ok (.iload_n 3, 1) := by decide +kernel
theorem dX4_bestApart_86 : decode cX4_bestApart 86 = .ok (.iaload, 1) := by decide +kernel
theorem dX4_bestApart_87 : decode cX4_bestApart 87 = .ok (.iadd, 1) := by decide +kernel
theorem dX4_bestApart_88 : decode cX4_bestApart 88 = .ok (.iastore, 1) := by decide +kernel
theorem dX4_bestApart_89 : decode cX4_bestApart 89 = .ok (.aload_n 0, 1) := by decide +kernel
theorem dX4_bestApart_90 : decode cX4_bestApart 90 = .ok (.getfield 35, 3) := by decide +kernel
theorem dX4_bestApart_93 : decode cX4_bestApart 93 = .ok (.iload_n 1, 1) := by decide +kernel
theorem dX4_bestApart_94 : decode cX4_bestApart 94 = .ok (.dup2, 1) := by decide +kernel
theorem dX4_bestApart_95 : decode cX4_bestApart 95 = .ok (.iaload, 1) := by decide +kernel
theorem dX4_bestApart_96 : decode cX4_bestApart 96 = .ok (.aload_n 0, 1) := by decide +kernel
theorem dX4_bestApart_97 : decode cX4_bestApart 97 = .ok (.getfield 32, 3) := by decide +kernel
theorem dX4_bestApart_100 : decode cX4_bestApart 100 = .ok (.iload_n 3, 1) := by decide +kernel
theorem dX4_bestApart_101 : decode cX4_bestApart 101 = .ok (.iaload, 1) := by decide +kernel
theorem dX4_bestApart_102 : decode cX4_bestApart 102 = .ok (.aload_n 0, 1) := by decide +kernel
theorem dX4_bestApart_103 : decode cX4_bestApart 103 = .ok (.getfield 35, 3) := by decide +kernel
theorem dX4_bestApart_106 : decode cX4_bestApart 106 = .ok (.iload_n 3, 1) := by decide +kernel
theorem dX4_bestApart_107 : decode cX4_bestApart 107 = .ok (.iaload, 1) := by decide +kernel
theorem dX4_bestApart_108 : decode cX4_bestApart 108 = .ok (.invokestatic 59, 3) := by decide +kernel
theorem dX4_bestApart_111 : decode cX4_bestApart 111 = .ok (.iadd, 1) := by decide +kernel
theorem dX4_bestApart_112 : decode cX4_bestApart 112 = .ok (.iastore, 1) := by decide +kernel
theorem dX4_bestApart_113 : decode cX4_bestApart 113 = .ok (.iinc 2 1, 3) := by decide +kernel
theorem dX4_bestApart_116 : decode cX4_bestApart 116 = .ok (.goto (-66), 3) := by decide +kernel
theorem dX4_bestApart_119 : decode cX4_bestApart 119 = .ok (.aload_n 0, 1) := by decide +kernel
theorem dX4_bestApart_120 : decode cX4_bestApart 120 = .ok (.getfield 32, 3) := by decide +kernel
theorem dX4_bestApart_123 : decode cX4_bestApart 123 = .ok (.iload_n 1, 1) := by decide +kernel
theorem dX4_bestApart_124 : decode cX4_bestApart 124 = .ok (.iaload, 1) := by decide +kernel
theorem dX4_bestApart_125 : decode cX4_bestApart 125 = .ok (.aload_n 0, 1) := by decide +kernel
theorem dX4_bestApart_126 : decode cX4_bestApart 126 = .ok (.getfield 35, 3) := by decide +kernel
theorem dX4_bestApart_129 : decode cX4_bestApart 129 = .ok (.iload_n 1, 1) := by decide +kernel
theorem dX4_bestApart_130 : decode cX4_bestApart 130 = .ok (.iaload, 1) := by decide +kernel
theorem dX4_bestApart_131 : decode cX4_bestApart 131 = .ok (.invokestatic 59, 3) := by decide +kernel
theorem dX4_bestApart_134 : decode cX4_bestApart 134 = .ok (.ireturn, 1) := by decide +kernel
