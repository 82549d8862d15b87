theorem dX0_init_0 : decode cX0_init 0 = .ok (.aload_n 0, 1) := by decide +kernel
theorem dX0_init_1 : decode cX0_init 1 = .ok (.invokespecial 3, 3) := by decide +kernel
theorem dX0_init_4 : decode cX0_init 4 = .ok (.aload_n 0, 1) := by decide +kernel
theorem dX0_init_5 : decode cX0_init 5 = .ok (.bipush 8, 2) := by decide +kernel
theorem dX0_init_7 : decode cX0_init 7 = .ok (.newarray .int, 2) := by decide +kernel
theorem dX0_init_9 : decode cX0_init 9 = .ok (.putfield 9, 3) := by decide +kernel
theorem dX0_init_12 : decode cX0_init 12 = .ok (.aload_n 0, 1) := by decide +kernel
theorem dX0_init_13 : decode cX0_init 13 = .ok (.bipush 8, 2) := by decide +kernel
theorem dX0_init_15 : decode cX0_init 15 = .ok (.newarray .int, 2) := by decide +kernel
theorem dX0_init_17 : decode cX0_init 17 = .ok (.putfield 15, 3) := by decide +kernel
theorem dX0_init_20 : decode cX0_init 20 = .ok (.aload_n 0, 1) := by decide +kernel
theorem dX0_init_21 : decode cX0_init 21 = .ok (.bipush 8, 2) := by decide +kernel
theorem dX0_init_23 : decode cX0_init 23 = .ok (.newarray .int, 2) := by decide +kernel
theorem dX0_init_25 : decode cX0_init 25 = .ok (.putfield 18, 3) := by decide +kernel
theorem dX0_init_28 : decode cX0_init 28 = .ok (.return_, 1) := by decide +kernel
theorem dX0_take_0 : decode cX0_take 0 = .ok (.aload_n 0, 1) := by decide +kernel
theorem dX0_take_1 : decode cX0_take 1 = .ok (.getfield 9, 3) := by decide +kernel
theorem dX0_take_4 : decode cX0_take 4 = .ok (.aload_n 0, 1) := by decide +kernel
theorem dX0_take_5 : decode cX0_take 5 = .ok (.getfield 21, 3) := by decide +kernel
theorem dX0_take_8 : decode cX0_take 8 = .ok (.iload_n 1, 1) := by decide +kernel
theorem dX0_take_9 : decode cX0_take 9 = .ok (.iastore, 1) := by decide +kernel
theorem dX0_take_10 : decode cX0_take 10 = .ok (.aload_n 0, 1) := by decide +kernel
theorem dX0_take_11 : decode cX0_take 11 = .ok (.getfield 15, 3) := by decide +kernel
theorem dX0_take_14 : decode cX0_take 14 = .ok (.aload_n 0, 1) := by decide +kernel
theorem dX0_take_15 : decode cX0_take 15 = .ok (.getfield 21, 3) := by decide +kernel
theorem dX0_take_18 : decode cX0_take 18 = .ok (.iload_n 2, 1) := by decide +kernel
theorem dX0_take_19 : decode cX0_take 19 = .ok (.iastore, 1) := by decide +kernel
theorem dX0_take_20 : decode cX0_take 20 = .ok (.aload_n 0, 1) := by decide +kernel
theorem dX0_take_21 : decode cX0_take 21 = .ok (.getfield 18, 3) := by decide +kernel
theorem dX0_take_24 : decode cX0_take 24 = .ok (.aload_n 0, 1) := by decide +kernel
theorem dX0_take_25 : decode cX0_take 25 = .ok (.getfield 21, 3) := by decide +kernel
theorem dX0_take_28 : decode cX0_take 28 = .ok (.iload_n 3, 1) := by decide +kernel
theorem dX0_take_29 : decode cX0_take 29 = .ok (.iastore, 1) := by decide +kernel
theorem dX0_take_30 : decode cX0_take 30 = .ok (.aload_n 0, 1) := by decide +kernel
theorem dX0_take_31 : decode cX0_take 31 = .ok (.dup, 1) := by decide +kernel
theorem dX0_take_32 : decode cX0_take 32 = .ok (.getfield 21, 3) := by decide +kernel
theorem dX0_take_35 : decode cX0_take 35 = .ok (.iconst 1, 1) := by decide +kernel
theorem dX0_take_36 : decode cX0_take 36 = .ok (.iadd, 1) := by decide +kernel
theorem dX0_take_37 : decode cX0_take 37 = .ok (.putfield 21, 3) := by decide +kernel
theorem dX0_take_40 : decode cX0_take 40 = .ok (.aload_n 0, 1) := by decide +kernel
theorem dX0_take_41 : decode cX0_take 41 = .ok (.getfield 21, 3) := by decide +kernel
theorem dX0_take_44 : decode cX0_take 44 = .ok (.iconst 1, 1) := by decide +kernel
theorem dX0_take_45 : decode cX0_take 45 = .ok (.isub, 1) := by decide +kernel
theorem dX0_take_46 : decode cX0_take 46 = .ok (.ireturn, 1) := by decide +kernel
theorem dX0_askedOf_0 : decode cX0_askedOf 0 = .ok (.iconst (-1), 1) := by decide +kernel
theorem dX0_askedOf_1 : decode cX0_askedOf 1 = .ok (.istore_n 3, 1) := by decide +kernel
theorem dX0_askedOf_2 : decode cX0_askedOf 2 = .ok (.iconst 0, 1) := by decide +kernel
theorem dX0_askedOf_3 : decode cX0_askedOf 3 = .ok (.istore 4, 2) := by decide +kernel
theorem dX0_askedOf_5 : decode cX0_askedOf 5 = .ok (.iload 4, 2) := by decide +kernel
theorem dX0_askedOf_7 : decode cX0_askedOf 7 = .ok (.aload_n 0, 1) := by decide +kernel
theorem dX0_askedOf_8 : decode cX0_askedOf 8 = .ok (.getfield 21, 3) := by decide +kernel
theorem dX0_askedOf_11 : decode cX0_askedOf 11 = .ok (.if_icmp .ge 88, 3) := by decide +kernel
theorem dX0_askedOf_14 : decode cX0_askedOf 14 = .ok (.aload_n 0, 1) := by decide +kernel
theorem dX0_askedOf_15 : decode cX0_askedOf 15 = .ok (.getfield 18, 3) := by decide +kernel
theorem dX0_askedOf_18 : decode cX0_askedOf 18 = .ok (.iload 4, 2) := by decide +kernel
theorem dX0_askedOf_20 : decode cX0_askedOf 20 = .ok (.iaload, 1) := by decide +kernel
theorem dX0_askedOf_21 : decode cX0_askedOf 21 = .ok (.aload_n 0, 1) := by decide +kernel
theorem dX0_askedOf_22 : decode cX0_askedOf 22 = .ok (.aload_n 1, 1) := by decide +kernel
theorem dX0_askedOf_23 : decode cX0_askedOf 23 = .ok (.iload_n 2, 1) := by decide +kernel
theorem dX0_askedOf_24 : decode cX0_askedOf 24 = .ok (.iload 4, 2) := by decide +kernel
theorem dX0_askedOf_26 : decode cX0_askedOf 26 = .ok (.invokevirtual 25, 3) := by decide +kernel
theorem dX0_askedOf_29 : decode cX0_askedOf 29 = .ok (.isub, 1) := by decide +kernel
theorem dX0_askedOf_30 : decode cX0_askedOf 30 = .ok (.istore 5, 2) := by decide +kernel
theorem dX0_askedOf_32 : decode cX0_askedOf 32 = .ok (.aload_n 1, 1) := by decide +kernel
theorem dX0_askedOf_33 : decode cX0_askedOf 33 = .ok (.aload_n 0, 1) := by decide +kernel
theorem dX0_askedOf_34 : decode cX0_askedOf 34 = .ok (.getfield 9, 3) := by decide +kernel
theorem dX0_askedOf_37 : decode cX0_askedOf 37 = .ok (.iload 4, 2) := by decide +kernel
theorem dX0_askedOf_39 : decode cX0_askedOf 39 = .ok (.iaload, 1) := by decide +kernel
theorem dX0_askedOf_40 : decode cX0_askedOf 40 = .ok (.aload_n 0, 1) := by decide +kernel
theorem dX0_askedOf_41 : decode cX0_askedOf 41 = .ok (.getfield 15, 3) := by decide +kernel
theorem dX0_askedOf_44 : decode cX0_askedOf 44 = .ok (.iload 4, 2) := by decide +kernel
theorem dX0_askedOf_46 : decode cX0_askedOf 46 = .ok (.iaload, 1) := by decide +kernel
theorem dX0_askedOf_47 : decode cX0_askedOf 47 = .ok (.iload_n 2, 1) := by decide +kernel
theorem dX0_askedOf_48 : decode cX0_askedOf 48 = .ok (.invokevirtual 29, 3) := by decide +kernel
theorem dX0_askedOf_51 : decode cX0_askedOf 51 = .ok (.istore 6, 2) := by decide +kernel
theorem dX0_askedOf_53 : decode cX0_askedOf 53 = .ok (.iload 6, 2) := by decide +kernel
theorem dX0_askedOf_55 : decode cX0_askedOf 55 = .ok (.ifCond .eq 22, 3) := by decide +kernel
theorem dX0_askedOf_58 : decode cX0_askedOf 58 = .ok (.iload 5, 2) := by decide +kernel
theorem dX0_askedOf_60 : decode cX0_askedOf 60 = .ok (.ifCond .lt 22, 3) := by decide +kernel
theorem dX0_askedOf_63 : decode cX0_askedOf 63 = .ok (.iload_n 3, 1) := by decide +kernel
theorem dX0_askedOf_64 : decode cX0_askedOf 64 = .ok (.iconst (-1), 1) := by decide +kernel
theorem dX0_askedOf_65 : decode cX0_askedOf 65 = .ok (.if_icmp .eq 20, 3) := by decide +kernel
theorem dX0_askedOf_68 : decode cX0_askedOf 68 = .ok (.iload_n 3, 1) := by decide +kernel
theorem dX0_askedOf_69 : decode cX0_askedOf 69 = .ok (.iload 5, 2) := by decide +kernel
theorem dX0_askedOf_71 : decode cX0_askedOf 71 = .ok (.if_icmp .eq 14, 3) := by decide +kernel
theorem dX0_askedOf_74 : decode cX0_askedOf 74 = .ok (.goto 8, 3) := by decide +kernel
theorem dX0_askedOf_77 : decode cX0_askedOf 77 = .ok (.iload 5, 2) := by decide +kernel
theorem dX0_askedOf_79 : decode cX0_askedOf 79 = .ok (.ifCond .eq 6, 3) := by decide +kernel
theorem dX0_askedOf_82 : decode cX0_askedOf 82 = .ok (.bipush (-2), 2) := by decide +kernel
theorem dX0_askedOf_84 : decode cX0_askedOf 84 = .ok (.ireturn, 1) := by decide +kernel
theorem dX0_askedOf_85 : decode cX0_askedOf 85 = .ok (.iload 6, 2) := by decide +kernel
theorem dX0_askedOf_87 : decode cX0_askedOf 87 = .ok (.ifCond .eq 6, 3) := by decide +kernel
theorem dX0_askedOf_90 : decode cX0_askedOf 90 = .ok (.iload 5, 2) := by decide +kernel
theorem dX0_askedOf_92 : decode cX0_askedOf 92 = .ok (.istore_n 3, 1) := by decide +kernel
theorem dX0_askedOf_93 : decode cX0_askedOf 93 = .ok (.iinc 4 1, 3) := by decide +kernel
theorem dX0_askedOf_96 : decode cX0_askedOf 96 = .ok (.goto (-91), 3) := by decide +kernel
theorem dX0_askedOf_99 : decode cX0_askedOf 99 = .ok (.iload_n 3, 1) := by decide +kernel
theorem dX0_askedOf_100 : decode cX0_askedOf 100 = .ok (.ireturn, 1) := by decide +kernel
theorem dX0_worthBeside_0 : decode cX0_worthBeside 0 = .ok (.iconst 0, 1) := by decide +kernel
theorem dX0_worthBeside_1 : decode cX0_worthBeside 1 = .ok (.istore 4, 2) := by decide +kernel
theorem dX0_worthBeside_3 : decode cX0_worthBeside 3 = .ok (.iconst 0, 1) := by decide +kernel
theorem dX0_worthBeside_4 : decode cX0_worthBeside 4 = .ok (.istore 5, 2) := by decide +kernel
theorem dX0_worthBeside_6 : decode cX0_worthBeside 6 = .ok (.iload 5, 2) := by decide +kernel
theorem dX0_worthBeside_8 : decode cX0_worthBeside 8 = .ok (.aload_n 1, 1) := by decide +kernel
theorem dX0_worthBeside_9 : decode cX0_worthBeside 9 = .ok (.getfield 35, 3) := by decide +kernel
theorem dX0_worthBeside_12 : decode cX0_worthBeside 12 = .ok (.if_icmp .ge 47, 3) := by decide +kernel
theorem dX0_worthBeside_15 : decode cX0_worthBeside 15 = .ok (.iload 5, 2) := by decide +kernel
theorem dX0_worthBeside_17 : decode cX0_worthBeside 17 = .ok (.iload_n 2, 1) := by decide +kernel
theorem dX0_worthBeside_18 : decode cX0_worthBeside 18 = .ok (.if_icmp .eq 35, 3) := by decide +kernel
theorem dX0_worthBeside_21 : decode cX0_worthBeside 21 = .ok (.aload_n 1, 1) := by decide +kernel
theorem dX0_worthBeside_22 : decode cX0_worthBeside 22 = .ok (.aload_n 0, 1) := by decide +kernel
theorem dX0_worthBeside_23 : decode cX0_worthBeside 23 = .ok (.getfield 9, 3) := by decide +kernel
theorem dX0_worthBeside_26 : decode cX0_worthBeside 26 = .ok (.iload_n 3, 1) := by decide +kernel
theorem dX0_worthBeside_27 : decode cX0_worthBeside 27 = .ok (.iaload, 1) := by decide +kernel
theorem dX0_worthBeside_28 : decode cX0_worthBeside 28 = .ok (.aload_n 0, 1) := by decide +kernel
theorem dX0_worthBeside_29 : decode cX0_worthBeside 29 = .ok (.getfield 15, 3) := by decide +kernel
theorem dX0_worthBeside_32 : decode cX0_worthBeside 32 = .ok (.iload_n 3, 1) := by decide +kernel
theorem dX0_worthBeside_33 : decode cX0_worthBeside 33 = .ok (.iaload, 1) := by decide +kernel
theorem dX0_worthBeside_34 : decode cX0_worthBeside 34 = .ok (.iload 5, 2) := by decide +kernel
theorem dX0_worthBeside_36 : decode cX0_worthBeside 36 = .ok (.invokevirtual 29, 3) := by decide +kernel
theorem dX0_worthBeside_39 : decode cX0_worthBeside 39 = .ok (.ifCond .eq 14, 3) := by decide +kernel
theorem dX0_worthBeside_42 : decode cX0_worthBeside 42 = .ok (.iload 4, 2) := by decide +kernel
theorem dX0_worthBeside_44 : decode cX0_worthBeside 44 = .ok (.aload_n 1, 1) := by decide +kernel
theorem dX0_worthBeside_45 : decode cX0_worthBeside 45 = .ok (.iload 5, 2) := by decide +kernel
theorem dX0_worthBeside_47 : decode cX0_worthBeside 47 = .ok (.invokevirtual 38, 3) := by decide +kernel
theorem dX0_worthBeside_50 : decode cX0_worthBeside 50 = .ok (.iadd, 1) := by decide +kernel
theorem dX0_worthBeside_51 : decode cX0_worthBeside 51 = .ok (.istore 4, 2) := by decide +kernel
theorem dX0_worthBeside_53 : decode cX0_worthBeside 53 = .ok (.iinc 5 1, 3) := by decide +kernel
theorem dX0_worthBeside_56 : decode cX0_worthBeside 56 = .ok (.goto (-50), 3) := by decide +kernel
theorem dX0_worthBeside_59 : decode cX0_worthBeside 59 = .ok (.iload 4, 2) := by decide +kernel
theorem dX0_worthBeside_61 : decode cX0_worthBeside 61 = .ok (.ireturn, 1) := by decide +kernel
theorem dX1_init_0 : decode cX1_init 0 = .ok (.aload_n 0, 1) := by decide +kernel
theorem dX1_init_1 : decode cX1_init 1 = .ok (.invokespecial 3, 3) := by decide +kernel
theorem dX1_init_4 : decode cX1_init 4 = .ok (.aload_n 0, 1) := by decide +kernel
theorem dX1_init_5 : decode cX1_init 5 = .ok (.bipush 8, 2) := by decide +kernel
theorem dX1_init_7 : decode cX1_init 7 = .ok (.newarray .int, 2) := by decide +kernel
theorem dX1_init_9 : decode cX1_init 9 = .ok (.putfield 9, 3) := by decide +kernel
theorem dX1_init_12 : decode cX1_init 12 = .ok (.aload_n 0, 1) := by decide +kernel
theorem dX1_init_13 : decode cX1_init 13 = .ok (.bipush 8, 2) := by decide +kernel
theorem dX1_init_15 : decode cX1_init 15 = .ok (.newarray .int, 2) := by decide +kernel
theorem dX1_init_17 : decode cX1_init 17 = .ok (.putfield 15, 3) := by decide +kernel
theorem dX1_init_20 : decode cX1_init 20 = .ok (.return_, 1) := by decide +kernel
theorem dX1_sameShape_0 : decode cX1_sameShape 0 = .ok (.aload_n 0, 1) := by decide +kernel
theorem dX1_sameShape_1 : decode cX1_sameShape 1 = .ok (.aload_n 1, 1) := by decide +kernel
theorem dX1_sameShape_2 : decode cX1_sameShape 2 = .ok (.iconst 0, 1) := by decide +kernel
theorem dX1_sameShape_3 : decode cX1_sameShape 3 = .ok (.invokevirtual 18, 3) := by decide +kernel
theorem dX1_sameShape_6 : decode cX1_sameShape 6 = .ok (.istore_n 2, 1) := by decide +kernel
theorem dX1_sameShape_7 : decode cX1_sameShape 7 = .ok (.aload_n 0, 1) := by decide +kernel
theorem dX1_sameShape_8 : decode cX1_sameShape 8 = .ok (.getfield 22, 3) := by decide +kernel
theorem dX1_sameShape_11 : decode cX1_sameShape 11 = .ok (.istore_n 3, 1) := by decide +kernel
theorem dX1_sameShape_12 : decode cX1_sameShape 12 = .ok (.iconst 0, 1) := by decide +kernel
theorem dX1_sameShape_13 : decode cX1_sameShape 13 = .ok (.istore 4, 2) := by decide +kernel
theorem dX1_sameShape_15 : decode cX1_sameShape 15 = .ok (.iconst 1, 1) := by decide +kernel
theorem dX1_sameShape_16 : decode cX1_sameShape 16 = .ok (.istore 5, 2) := by decide +kernel
theorem dX1_sameShape_18 : decode cX1_sameShape 18 = .ok (.iconst 0, 1) := by decide +kernel
theorem dX1_sameShape_19 : decode cX1_sameShape 19 = .ok (.istore 6, 2) := by decide +kernel
theorem dX1_sameShape_21 : decode cX1_sameShape 21 = .ok (.iload 6, 2) := by decide +kernel
theorem dX1_sameShape_23 : decode cX1_sameShape 23 = .ok (.aload_n 1, 1) := by decide +kernel
theorem dX1_sameShape_24 : decode cX1_sameShape 24 = .ok (.getfield 26, 3) := by decide +kernel
theorem dX1_sameShape_27 : decode cX1_sameShape 27 = .ok (.if_icmp .ge 32, 3) := by decide +kernel
theorem dX1_sameShape_30 : decode cX1_sameShape 30 = .ok (.iload 5, 2) := by decide +kernel
theorem dX1_sameShape_32 : decode cX1_sameShape 32 = .ok (.iload 6, 2) := by decide +kernel
theorem dX1_sameShape_34 : decode cX1_sameShape 34 = .ok (.iconst 1, 1) := by decide +kernel
theorem dX1_sameShape_35 : decode cX1_sameShape 35 = .ok (.iadd, 1) := by decide +kernel
theorem dX1_sameShape_36 : decode cX1_sameShape 36 = .ok (.imul, 1) := by decide +kernel
theorem dX1_sameShape_37 : decode cX1_sameShape 37 = .ok (.istore 5, 2) := by decide +kernel
theorem dX1_sameShape_39 : decode cX1_sameShape 39 = .ok (.aload_n 0, 1) := by decide +kernel
theorem dX1_sameShape_40 : decode cX1_sameShape 40 = .ok (.aload_n 1, 1) := by decide +kernel
theorem dX1_sameShape_41 : decode cX1_sameShape 41 = .ok (.iload 6, 2) := by decide +kernel
theorem dX1_sameShape_43 : decode cX1_sameShape 43 = .ok (.invokevirtual 18, 3) := by decide +kernel
theorem dX1_sameShape_46 : decode cX1_sameShape 46 = .ok (.iload_n 2, 1) := by decide +kernel
theorem dX1_sameShape_47 : decode cX1_sameShape 47 = .ok (.if_icmp .ne 6, 3) := by decide +kernel
theorem dX1_sameShape_50 : decode cX1_sameShape 50 = .ok (.iinc 4 1, 3) := by decide +kernel
theorem dX1_sameShape_53 : decode cX1_sameShape 53 = .ok (.iinc 6 1, 3) := by decide +kernel
theorem dX1_sameShape_56 : decode cX1_sameShape 56 = .ok (.goto (-35), 3) := by decide +kernel
theorem dX1_sameShape_59 : decode cX1_sameShape 59 = .ok (.iload_n 3, 1) := by decide +kernel
theorem dX1_sameShape_60 : decode cX1_sameShape 60 = .ok (.iload 4, 2) := by decide +kernel
theorem dX1_sameShape_62 : decode cX1_sameShape 62 = .ok (.imul, 1) := by decide +kernel
theorem dX1_sameShape_63 : decode cX1_sameShape 63 = .ok (.istore 6, 2) := by decide +kernel
theorem dX1_sameShape_65 : decode cX1_sameShape 65 = .ok (.iload 6, 2) := by decide +kernel
theorem dX1_sameShape_67 : decode cX1_sameShape 67 = .ok (.ifCond .le 11, 3) := by decide +kernel
theorem dX1_sameShape_70 : decode cX1_sameShape 70 = .ok (.iload 5, 2) := by decide +kernel
theorem dX1_sameShape_72 : decode cX1_sameShape 72 = .ok (.iload 6, 2) := by decide +kernel
theorem dX1_sameShape_74 : decode cX1_sameShape 74 = .ok (.idiv, 1) := by decide +kernel
theorem dX1_sameShape_75 : decode cX1_sameShape 75 = .ok (.goto 4, 3) := by decide +kernel
theorem dX1_sameShape_78 : decode cX1_sameShape 78 = .ok (.iconst 0, 1) := by decide +kernel
theorem dX1_sameShape_79 : decode cX1_sameShape 79 = .ok (.ireturn, 1) := by decide +kernel
theorem dX1_signsFrom_0 : decode cX1_signsFrom 0 = .ok (.aload_n 0, 1) := by decide +kernel
theorem dX1_signsFrom_1 : decode cX1_signsFrom 1 = .ok (.iconst 1, 1) := by decide +kernel
theorem dX1_signsFrom_2 : decode cX1_signsFrom 2 = .ok (.putfield 22, 3) := by decide +kernel
theorem dX1_signsFrom_5 : decode cX1_signsFrom 5 = .ok (.aload_n 1, 1) := by decide +kernel
theorem dX1_signsFrom_6 : decode cX1_signsFrom 6 = .ok (.getfield 26, 3) := by decide +kernel
theorem dX1_signsFrom_9 : decode cX1_signsFrom 9 = .ok (.iconst 1, 1) := by decide +kernel
theorem dX1_signsFrom_10 : decode cX1_signsFrom 10 = .ok (.isub, 1) := by decide +kernel
theorem dX1_signsFrom_11 : decode cX1_signsFrom 11 = .ok (.istore_n 3, 1) := by decide +kernel
theorem dX1_signsFrom_12 : decode cX1_signsFrom 12 = .ok (.iload_n 3, 1) := by decide +kernel
theorem dX1_signsFrom_13 : decode cX1_signsFrom 13 = .ok (.ifCond .lt 54, 3) := by decide +kernel
theorem dX1_signsFrom_16 : decode cX1_signsFrom 16 = .ok (.iconst 0, 1) := by decide +kernel
theorem dX1_signsFrom_17 : decode cX1_signsFrom 17 = .ok (.istore 4, 2) := by decide +kernel
theorem dX1_signsFrom_19 : decode cX1_signsFrom 19 = .ok (.iload 4, 2) := by decide +kernel
theorem dX1_signsFrom_21 : decode cX1_signsFrom 21 = .ok (.aload_n 1, 1) := by decide +kernel
theorem dX1_signsFrom_22 : decode cX1_signsFrom 22 = .ok (.getfield 26, 3) := by decide +kernel
theorem dX1_signsFrom_25 : decode cX1_signsFrom 25 = .ok (.if_icmp .ge 36, 3) := by decide +kernel
theorem dX1_signsFrom_28 : decode cX1_signsFrom 28 = .ok (.aload_n 1, 1) := by decide +kernel
theorem dX1_signsFrom_29 : decode cX1_signsFrom 29 = .ok (.getfield 31, 3) := by decide +kernel
theorem dX1_signsFrom_32 : decode cX1_signsFrom 32 = .ok (.iload_n 2, 1) := by decide +kernel
theorem dX1_signsFrom_33 : decode cX1_signsFrom 33 = .ok (.aaload, 1) := by decide +kernel
theorem dX1_signsFrom_34 : decode cX1_signsFrom 34 = .ok (.iload 4, 2) := by decide +kernel
theorem dX1_signsFrom_36 : decode cX1_signsFrom 36 = .ok (.iaload, 1) := by decide +kernel
theorem dX1_signsFrom_37 : decode cX1_signsFrom 37 = .ok (.iload_n 3, 1) := by decide +kernel
theorem dX1_signsFrom_38 : decode cX1_signsFrom 38 = .ok (.if_icmp .ne 17, 3) := by decide +kernel
theorem dX1_signsFrom_41 : decode cX1_signsFrom 41 = .ok (.aload_n 0, 1) := by decide +kernel
theorem dX1_signsFrom_42 : decode cX1_signsFrom 42 = .ok (.aload_n 0, 1) := by decide +kernel
theorem dX1_signsFrom_43 : decode cX1_signsFrom 43 = .ok (.aload_n 1, 1) := by decide +kernel
theorem dX1_signsFrom_44 : decode cX1_signsFrom 44 = .ok (.iload_n 2, 1) := by decide +kernel
theorem dX1_signsFrom_45 : decode cX1_signsFrom 45 = .ok (.iload 4, 2) := by decide +kernel
theorem dX1_signsFrom_47 : decode cX1_signsFrom 47 = .ok (.invokevirtual 35, 3) := by decide +kernel
theorem dX1_signsFrom_50 : decode cX1_signsFrom 50 = .ok (.iload 4, 2) := by decide +kernel
theorem dX1_signsFrom_52 : decode cX1_signsFrom 52 = .ok (.invokevirtual 39, 3) := by decide +kernel
theorem dX1_signsFrom_55 : decode cX1_signsFrom 55 = .ok (.iinc 4 1, 3) := by decide +kernel
theorem dX1_signsFrom_58 : decode cX1_signsFrom 58 = .ok (.goto (-39), 3) := by decide +kernel
theorem dX1_signsFrom_61 : decode cX1_signsFrom 61 = .ok (.iinc 3 (-1), 3) := by decide +kernel
theorem dX1_signsFrom_64 : decode cX1_signsFrom 64 = .ok (.goto (-52), 3) := by decide +kernel
theorem dX1_signsFrom_67 : decode cX1_signsFrom 67 = .ok (.aload_n 0, 1) := by decide +kernel
theorem dX1_signsFrom_68 : decode cX1_signsFrom 68 = .ok (.getfield 9, 3) := by decide +kernel
theorem dX1_signsFrom_71 : decode cX1_signsFrom 71 = .ok (.iload_n 2, 1) := by decide +kernel
theorem dX1_signsFrom_72 : decode cX1_signsFrom 72 = .ok (.iaload, 1) := by decide +kernel
theorem dX1_signsFrom_73 : decode cX1_signsFrom 73 = .ok (.ireturn, 1) := by decide +kernel
theorem dX1_gather_0 : decode cX1_gather 0 = .ok (.iconst 0, 1) := by decide +kernel
theorem dX1_gather_1 : decode cX1_gather 1 = .ok (.istore 4, 2) := by decide +kernel
theorem dX1_gather_3 : decode cX1_gather 3 = .ok (.iconst 0, 1) := by decide +kernel
theorem dX1_gather_4 : decode cX1_gather 4 = .ok (.istore 5, 2) := by decide +kernel
theorem dX1_gather_6 : decode cX1_gather 6 = .ok (.iload 5, 2) := by decide +kernel
theorem dX1_gather_8 : decode cX1_gather 8 = .ok (.aload_n 1, 1) := by decide +kernel
theorem dX1_gather_9 : decode cX1_gather 9 = .ok (.getfield 26, 3) := by decide +kernel
theorem dX1_gather_12 : decode cX1_gather 12 = .ok (.if_icmp .ge 59, 3) := by decide +kernel
theorem dX1_gather_15 : decode cX1_gather 15 = .ok (.aload_n 1, 1) := by decide +kernel
theorem dX1_gather_16 : decode cX1_gather 16 = .ok (.getfield 43, 3) := by decide +kernel
theorem dX1_gather_19 : decode cX1_gather 19 = .ok (.iload_n 3, 1) := by decide +kernel
theorem dX1_gather_20 : decode cX1_gather 20 = .ok (.iaload, 1) := by decide +kernel
theorem dX1_gather_21 : decode cX1_gather 21 = .ok (.iload 5, 2) := by decide +kernel
theorem dX1_gather_23 : decode cX1_gather 23 = .ok (.ishr, 1) := by decide +kernel
theorem dX1_gather_24 : decode cX1_gather 24 = .ok (.iconst 1, 1) := by decide +kernel
theorem dX1_gather_25 : decode cX1_gather 25 = .ok (.iand, 1) := by decide +kernel
theorem dX1_gather_26 : decode cX1_gather 26 = .ok (.ifCond .eq 39, 3) := by decide +kernel
theorem dX1_gather_29 : decode cX1_gather 29 = .ok (.aload_n 1, 1) := by decide +kernel
theorem dX1_gather_30 : decode cX1_gather 30 = .ok (.getfield 31, 3) := by decide +kernel
theorem dX1_gather_33 : decode cX1_gather 33 = .ok (.iload_n 2, 1) := by decide +kernel
theorem dX1_gather_34 : decode cX1_gather 34 = .ok (.aaload, 1) := by decide +kernel
theorem dX1_gather_35 : decode cX1_gather 35 = .ok (.iload 5, 2) := by decide +kernel
theorem dX1_gather_37 : decode cX1_gather 37 = .ok (.iaload, 1) := by decide +kernel
theorem dX1_gather_38 : decode cX1_gather 38 = .ok (.aload_n 1, 1) := by decide +kernel
theorem dX1_gather_39 : decode cX1_gather 39 = .ok (.getfield 31, 3) := by decide +kernel
theorem dX1_gather_42 : decode cX1_gather 42 = .ok (.iload_n 2, 1) := by decide +kernel
theorem dX1_gather_43 : decode cX1_gather 43 = .ok (.aaload, 1) := by decide +kernel
theorem dX1_gather_44 : decode cX1_gather 44 = .ok (.iload_n 3, 1) := by decide +kernel
theorem dX1_gather_45 : decode cX1_gather 45 = .ok (.iaload, 1) := by decide +kernel
theorem dX1_gather_46 : decode cX1_gather 46 = .ok (.if_icmp .le 19, 3) := by decide +kernel
theorem dX1_gather_49 : decode cX1_gather 49 = .ok (.aload_n 0, 1) := by decide +kernel
theorem dX1_gather_50 : decode cX1_gather 50 = .ok (.aload_n 0, 1) := by decide +kernel
theorem dX1_gather_51 : decode cX1_gather 51 = .ok (.getfield 9, 3) := by decide +kernel
theorem dX1_gather_54 : decode cX1_gather 54 = .ok (.iload 5, 2) := by decide +kernel
theorem dX1_gather_56 : decode cX1_gather 56 = .ok (.iaload, 1) := by decide +kernel
theorem dX1_gather_57 : decode cX1_gather 57 = .ok (.iload 4, 2) := by decide +kernel
theorem dX1_gather_59 : decode cX1_gather 59 = .ok (.invokevirtual 46, 3) := by decide +kernel
theorem dX1_gather_62 : decode cX1_gather 62 = .ok (.iinc 4 1, 3) := by decide +kernel
theorem dX1_gather_65 : decode cX1_gather 65 = .ok (.iinc 5 1, 3) := by decide +kernel
theorem dX1_gather_68 : decode cX1_gather 68 = .ok (.goto (-62), 3) := by decide +kernel
theorem dX1_gather_71 : decode cX1_gather 71 = .ok (.iload 4, 2) := by decide +kernel
theorem dX1_gather_73 : decode cX1_gather 73 = .ok (.ireturn, 1) := by decide +kernel
theorem dX1_insert_0 : decode cX1_insert 0 = .ok (.iload_n 2, 1) := by decide +kernel
theorem dX1_insert_1 : decode cX1_insert 1 = .ok (.istore_n 3, 1) := by decide +kernel
theorem dX1_insert_2 : decode cX1_insert 2 = .ok (.iload_n 3, 1) := by decide +kernel
theorem dX1_insert_3 : decode cX1_insert 3 = .ok (.ifCond .le 35, 3) := by decide +kernel
theorem dX1_insert_6 : decode cX1_insert 6 = .ok (.aload_n 0, 1) := by decide +kernel
theorem dX1_insert_7 : decode cX1_insert 7 = .ok (.getfield 15, 3) := by decide +kernel
theorem dX1_insert_10 : decode cX1_insert 10 = .ok (.iload_n 3, 1) := by decide +kernel
theorem dX1_insert_11 : decode cX1_insert 11 = .ok (.iconst 1, 1) := by decide +kernel
theorem dX1_insert_12 : decode cX1_insert 12 = .ok (.isub, 1) := by decide +kernel
theorem dX1_insert_13 : decode cX1_insert 13 = .ok (.iaload, 1) := by decide +kernel
theorem dX1_insert_14 : decode cX1_insert 14 = .ok (.iload_n 1, 1) := by decide +kernel
theorem dX1_insert_15 : decode cX1_insert 15 = .ok (.if_icmp .le 23, 3) := by decide +kernel
theorem dX1_insert_18 : decode cX1_insert 18 = .ok (.aload_n 0, 1) := by decide +kernel
theorem dX1_insert_19 : decode cX1_insert 19 = .ok (.getfield 15, 3) := by decide +kernel
theorem dX1_insert_22 : decode cX1_insert 22 = .ok (.iload_n 3, 1) := by decide +kernel
theorem dX1_insert_23 : decode cX1_insert 23 = .ok (.aload_n 0, 1) := by decide +kernel
theorem dX1_insert_24 : decode cX1_insert 24 = .ok (.getfield 15, 3) := by decide +kernel
theorem dX1_insert_27 : decode cX1_insert 27 = .ok (.iload_n 3, 1) := by decide +kernel
theorem dX1_insert_28 : decode cX1_insert 28 = .ok (.iconst 1, 1) := by decide +kernel
theorem dX1_insert_29 : decode cX1_insert 29 = .ok (.isub, 1) := by decide +kernel
theorem dX1_insert_30 : decode cX1_insert 30 = .ok (.iaload, 1) := by decide +kernel
theorem dX1_insert_31 : decode cX1_insert 31 = .ok (.iastore, 1) := by decide +kernel
theorem dX1_insert_32 : decode cX1_insert 32 = .ok (.iinc 3 (-1), 3) := by decide +kernel
theorem dX1_insert_35 : decode cX1_insert 35 = .ok (.goto (-33), 3) := by decide +kernel
theorem dX1_insert_38 : decode cX1_insert 38 = .ok (.aload_n 0, 1) := by decide +kernel
theorem dX1_insert_39 : decode cX1_insert 39 = .ok (.getfield 15, 3) := by decide +kernel
theorem dX1_insert_42 : decode cX1_insert 42 = .ok (.iload_n 3, 1) := by decide +kernel
theorem dX1_insert_43 : decode cX1_insert 43 = .ok (.iload_n 1, 1) := by decide +kernel
theorem dX1_insert_44 : decode cX1_insert 44 = .ok (.iastore, 1) := by decide +kernel
theorem dX1_insert_45 : decode cX1_insert 45 = .ok (.return_, 1) := by decide +kernel
theorem dX1_join_0 : decode cX1_join 0 = .ok (.iconst 1, 1) := by decide +kernel
theorem dX1_join_1 : decode cX1_join 1 = .ok (.istore_n 3, 1) := by decide +kernel
theorem dX1_join_2 : decode cX1_join 2 = .ok (.iconst 0, 1) := by decide +kernel
theorem dX1_join_3 : decode cX1_join 3 = .ok (.istore 4, 2) := by decide +kernel
theorem dX1_join_5 : decode cX1_join 5 = .ok (.iconst 0, 1) := by decide +kernel
theorem dX1_join_6 : decode cX1_join 6 = .ok (.istore 5, 2) := by decide +kernel
theorem dX1_join_8 : decode cX1_join 8 = .ok (.iload 5, 2) := by decide +kernel
theorem dX1_join_10 : decode cX1_join 10 = .ok (.iload_n 1, 1) := by decide +kernel
theorem dX1_join_11 : decode cX1_join 11 = .ok (.if_icmp .ge 77, 3) := by decide +kernel
theorem dX1_join_14 : decode cX1_join 14 = .ok (.iload 5, 2) := by decide +kernel
theorem dX1_join_16 : decode cX1_join 16 = .ok (.ifCond .le 29, 3) := by decide +kernel
theorem dX1_join_19 : decode cX1_join 19 = .ok (.aload_n 0, 1) := by decide +kernel
theorem dX1_join_20 : decode cX1_join 20 = .ok (.getfield 15, 3) := by decide +kernel
theorem dX1_join_23 : decode cX1_join 23 = .ok (.iload 5, 2) := by decide +kernel
theorem dX1_join_25 : decode cX1_join 25 = .ok (.iaload, 1) := by decide +kernel
theorem dX1_join_26 : decode cX1_join 26 = .ok (.aload_n 0, 1) := by decide +kernel
theorem dX1_join_27 : decode cX1_join 27 = .ok (.getfield 15, 3) := by decide +kernel
theorem dX1_join_30 : decode cX1_join 30 = .ok (.iload 5, 2) := by decide +kernel
theorem dX1_join_32 : decode cX1_join 32 = .ok (.iconst 1, 1) := by decide +kernel
theorem dX1_join_33 : decode cX1_join 33 = .ok (.isub, 1) := by decide +kernel
theorem dX1_join_34 : decode cX1_join 34 = .ok (.iaload, 1) := by decide +kernel
theorem dX1_join_35 : decode cX1_join 35 = .ok (.if_icmp .ne 10, 3) := by decide +kernel
theorem dX1_join_38 : decode cX1_join 38 = .ok (.iload 4, 2) := by decide +kernel
theorem dX1_join_40 : decode cX1_join 40 = .ok (.iconst 1, 1) := by decide +kernel
theorem dX1_join_41 : decode cX1_join 41 = .ok (.iadd, 1) := by decide +kernel
theorem dX1_join_42 : decode cX1_join 42 = .ok (.goto 4, 3) := by decide +kernel
theorem dX1_join_45 : decode cX1_join 45 = .ok (.iconst 1, 1) := by decide +kernel
theorem dX1_join_46 : decode cX1_join 46 = .ok (.istore 4, 2) := by decide +kernel
theorem dX1_join_48 : decode cX1_join 48 = .ok (.aload_n 0, 1) := by decide +kernel
theorem dX1_join_49 : decode cX1_join 49 = .ok (.dup, 1) := by decide +kernel
theorem dX1_join_50 : decode cX1_join 50 = .ok (.getfield 22, 3) := by decide +kernel
theorem dX1_join_53 : decode cX1_join 53 = .ok (.iload 4, 2) := by decide +kernel
theorem dX1_join_55 : decode cX1_join 55 = .ok (.imul, 1) := by decide +kernel
theorem dX1_join_56 : decode cX1_join 56 = .ok (.putfield 22, 3) := by decide +kernel
theorem dX1_join_59 : decode cX1_join 59 = .ok (.iload_n 3, 1) := by decide +kernel
theorem dX1_join_60 : decode cX1_join 60 = .ok (.iconst 2, 1) := by decide +kernel
theorem dX1_join_61 : decode cX1_join 61 = .ok (.aload_n 0, 1) := by decide +kernel
theorem dX1_join_62 : decode cX1_join 62 = .ok (.getfield 15, 3) := by decide +kernel
theorem dX1_join_65 : decode cX1_join 65 = .ok (.iload 5, 2) := by decide +kernel
theorem dX1_join_67 : decode cX1_join 67 = .ok (.iaload, 1) := by decide +kernel
theorem dX1_join_68 : decode cX1_join 68 = .ok (.invokestatic 49, 3) := by decide +kernel
theorem dX1_join_71 : decode cX1_join 71 = .ok (.imul, 1) := by decide +kernel
theorem dX1_join_72 : decode cX1_join 72 = .ok (.ishl, 1) := by decide +kernel
theorem dX1_join_73 : decode cX1_join 73 = .ok (.aload_n 0, 1) := by decide +kernel
theorem dX1_join_74 : decode cX1_join 74 = .ok (.getfield 15, 3) := by decide +kernel
theorem dX1_join_77 : decode cX1_join 77 = .ok (.iload 5, 2) := by decide +kernel
theorem dX1_join_79 : decode cX1_join 79 = .ok (.iaload, 1) := by decide +kernel
theorem dX1_join_80 : decode cX1_join 80 = .ok (.ior, 1) := by decide +kernel
theorem dX1_join_81 : decode cX1_join 81 = .ok (.istore_n 3, 1) := by decide +kernel
theorem dX1_join_82 : decode cX1_join 82 = .ok (.iinc 5 1, 3) := by decide +kernel
theorem dX1_join_85 : decode cX1_join 85 = .ok (.goto (-77), 3) := by decide +kernel
theorem dX1_join_88 : decode cX1_join 88 = .ok (.aload_n 0, 1) := by decide +kernel
theorem dX1_join_89 : decode cX1_join 89 = .ok (.getfield 9, 3) := by decide +kernel
theorem dX1_join_92 : decode cX1_join 92 = .ok (.iload_n 2, 1) := by decide +kernel
theorem dX1_join_93 : decode cX1_join 93 = .ok (.iload_n 3, 1) := by decide +kernel
theorem dX1_join_94 : decode cX1_join 94 = .ok (.iconst 1, 1) := by decide +kernel
theorem dX1_join_95 : decode cX1_join 95 = .ok (.ishl, 1) := by decide +kernel
theorem dX1_join_96 : decode cX1_join 96 = .ok (.iastore, 1) := by decide +kernel
theorem dX1_join_97 : decode cX1_join 97 = .ok (.return_, 1) := by decide +kernel
theorem dX2_init_0 : decode cX2_init 0 = .ok (.aload_n 0, 1) := by decide +kernel
theorem dX2_init_1 : decode cX2_init 1 = .ok (.invokespecial 3, 3) := by decide +kernel
theorem dX2_init_4 : decode cX2_init 4 = .ok (.aload_n 0, 1) := by decide +kernel
theorem dX2_init_5 : decode cX2_init 5 = .ok (.bipush 60, 2) := by decide +kernel
theorem dX2_init_7 : decode cX2_init 7 = .ok (.newarray .int, 2) := by decide +kernel
theorem dX2_init_9 : decode cX2_init 9 = .ok (.putfield 9, 3) := by decide +kernel
theorem dX2_init_12 : decode cX2_init 12 = .ok (.aload_n 0, 1) := by decide +kernel
theorem dX2_init_13 : decode cX2_init 13 = .ok (.iconst (-1), 1) := by decide +kernel
theorem dX2_init_14 : decode cX2_init 14 = .ok (.putfield 15, 3) := by decide +kernel
theorem dX2_init_17 : decode cX2_init 17 = .ok (.return_, 1) := by decide +kernel
theorem dX2_begin_0 : decode cX2_begin 0 = .ok (.aload_n 0, 1) := by decide +kernel
theorem dX2_begin_1 : decode cX2_begin 1 = .ok (.iload_n 1, 1) := by decide +kernel
theorem dX2_begin_2 : decode cX2_begin 2 = .ok (.putfield 15, 3) := by decide +kernel
theorem dX2_begin_5 : decode cX2_begin 5 = .ok (.aload_n 0, 1) := by decide +kernel
theorem dX2_begin_6 : decode cX2_begin 6 = .ok (.iload_n 2, 1) := by decide +kernel
theorem dX2_begin_7 : decode cX2_begin 7 = .ok (.putfield 19, 3) := by decide +kernel
theorem dX2_begin_10 : decode cX2_begin 10 = .ok (.iconst 0, 1) := by decide +kernel
theorem dX2_begin_11 : decode cX2_begin 11 = .ok (.istore_n 3, 1) := by decide +kernel
theorem dX2_begin_12 : decode cX2_begin 12 = .ok (.iload_n 3, 1) := by decide +kernel
theorem dX2_begin_13 : decode cX2_begin 13 = .ok (.bipush 60, 2) := by decide +kernel
theorem dX2_begin_15 : decode cX2_begin 15 = .ok (.if_icmp .ge 16, 3) := by decide +kernel
theorem dX2_begin_18 : decode cX2_begin 18 = .ok (.aload_n 0, 1) := by decide +kernel
theorem dX2_begin_19 : decode cX2_begin 19 = .ok (.getfield 9, 3) := by decide +kernel
theorem dX2_begin_22 : decode cX2_begin 22 = .ok (.iload_n 3, 1) := by decide +kernel
theorem dX2_begin_23 : decode cX2_begin 23 = .ok (.iconst 0, 1) := by decide +kernel
theorem dX2_begin_24 : decode cX2_begin 24 = .ok (.iastore, 1) := by decide +kernel
theorem dX2_begin_25 : decode cX2_begin 25 = .ok (.iinc 3 1, 3) := by decide +kernel
theorem dX2_begin_28 : decode cX2_begin 28 = .ok (.goto (-16), 3) := by decide +kernel
theorem dX2_begin_31 : decode cX2_begin 31 = .ok (.return_, 1) := by decide +kernel
theorem dX2_faultAs_0 : decode cX2_faultAs 0 = .ok (.aload_n 0, 1) := by decide +kernel
theorem dX2_faultAs_1 : decode cX2_faultAs 1 = .ok (.getfield 15, 3) := by decide +kernel
theorem dX2_faultAs_4 : decode cX2_faultAs 4 = .ok (.iconst (-1), 1) := by decide +kernel
theorem dX2_faultAs_5 : decode cX2_faultAs 5 = .ok (.if_icmp .ne 5, 3) := by decide +kernel
theorem dX2_faultAs_8 : decode cX2_faultAs 8 = .ok (.iconst 1, 1) := by decide +kernel
theorem dX2_faultAs_9 : decode cX2_faultAs 9 = .ok (.ireturn, 1) := by decide +kernel
theorem dX2_faultAs_10 : decode cX2_faultAs 10 = .ok (.aload_n 0, 1) := by decide +kernel
theorem dX2_faultAs_11 : decode cX2_faultAs 11 = .ok (.getfield 15, 3) := by decide +kernel
theorem dX2_faultAs_14 : decode cX2_faultAs 14 = .ok (.iload_n 1, 1) := by decide +kernel
theorem dX2_faultAs_15 : decode cX2_faultAs 15 = .ok (.if_icmp .ne 7, 3) := by decide +kernel
theorem dX2_faultAs_18 : decode cX2_faultAs 18 = .ok (.iconst 0, 1) := by decide +kernel
theorem dX2_faultAs_19 : decode cX2_faultAs 19 = .ok (.goto 4, 3) := by decide +kernel
theorem dX2_faultAs_22 : decode cX2_faultAs 22 = .ok (.iconst 2, 1) := by decide +kernel
theorem dX2_faultAs_23 : decode cX2_faultAs 23 = .ok (.ireturn, 1) := by decide +kernel
theorem dX2_has_0 : decode cX2_has 0 = .ok (.iload_n 1, 1) := by decide +kernel
theorem dX2_has_1 : decode cX2_has 1 = .ok (.ifCond .lt 29, 3) := by decide +kernel
theorem dX2_has_4 : decode cX2_has 4 = .ok (.iload_n 1, 1) := by decide +kernel
theorem dX2_has_5 : decode cX2_has 5 = .ok (.aload_n 0, 1) := by decide +kernel
theorem dX2_has_6 : decode cX2_has 6 = .ok (.getfield 19, 3) := by decide +kernel
theorem dX2_has_9 : decode cX2_has 9 = .ok (.if_icmp .gt 21, 3) := by decide +kernel
theorem dX2_has_12 : decode cX2_has 12 = .ok (.iload_n 2, 1) := by decide +kernel
theorem dX2_has_13 : decode cX2_has 13 = .ok (.ifCond .lt 17, 3) := by decide +kernel
theorem dX2_has_16 : decode cX2_has 16 = .ok (.iload_n 2, 1) := by decide +kernel
theorem dX2_has_17 : decode cX2_has 17 = .ok (.aload_n 0, 1) := by decide +kernel
theorem dX2_has_18 : decode cX2_has 18 = .ok (.getfield 19, 3) := by decide +kernel
theorem dX2_has_21 : decode cX2_has 21 = .ok (.iload_n 1, 1) := by decide +kernel
theorem dX2_has_22 : decode cX2_has 22 = .ok (.isub, 1) := by decide +kernel
theorem dX2_has_23 : decode cX2_has 23 = .ok (.if_icmp .gt 7, 3) := by decide +kernel
theorem dX2_has_26 : decode cX2_has 26 = .ok (.iconst 1, 1) := by decide +kernel
theorem dX2_has_27 : decode cX2_has 27 = .ok (.goto 4, 3) := by decide +kernel
theorem dX2_has_30 : decode cX2_has 30 = .ok (.iconst 0, 1) := by decide +kernel
theorem dX2_has_31 : decode cX2_has 31 = .ok (.ireturn, 1) := by decide +kernel
theorem dX2_at_0 : decode cX2_at 0 = .ok (.iload_n 1, 1) := by decide +kernel
theorem dX2_at_1 : decode cX2_at 1 = .ok (.ifCond .lt 20, 3) := by decide +kernel
theorem dX2_at_4 : decode cX2_at 4 = .ok (.iload_n 1, 1) := by decide +kernel
theorem dX2_at_5 : decode cX2_at 5 = .ok (.aload_n 0, 1) := by decide +kernel
theorem dX2_at_6 : decode cX2_at 6 = .ok (.getfield 19, 3) := by decide +kernel
theorem dX2_at_9 : decode cX2_at 9 = .ok (.if_icmp .ge 12, 3) := by decide +kernel
theorem dX2_at_12 : decode cX2_at 12 = .ok (.aload_n 0, 1) := by decide +kernel
theorem dX2_at_13 : decode cX2_at 13 = .ok (.getfield 9, 3) := by decide +kernel
theorem dX2_at_16 : decode cX2_at 16 = .ok (.iload_n 1, 1) := by decide +kernel
theorem dX2_at_17 : decode cX2_at 17 = .ok (.iaload, 1) := by decide +kernel
theorem dX2_at_18 : decode cX2_at 18 = .ok (.goto 4, 3) := by decide +kernel
theorem dX2_at_21 : decode cX2_at 21 = .ok (.iconst 0, 1) := by decide +kernel
theorem dX2_at_22 : decode cX2_at 22 = .ok (.ireturn, 1) := by decide +kernel
theorem dX2_cut_0 : decode cX2_cut 0 = .ok (.aload_n 0, 1) := by decide +kernel
theorem dX2_cut_1 : decode cX2_cut 1 = .ok (.getfield 15, 3) := by decide +kernel
theorem dX2_cut_4 : decode cX2_cut 4 = .ok (.lookupswitch 34 #[(0, 28), (1, 31)], 28) := by decide +kernel
theorem dX2_cut_32 : decode cX2_cut 32 = .ok (.iload_n 1, 1) := by decide +kernel
theorem dX2_cut_33 : decode cX2_cut 33 = .ok (.i2b, 1) := by decide +kernel
theorem dX2_cut_34 : decode cX2_cut 34 = .ok (.ireturn, 1) := by decide +kernel
theorem dX2_cut_35 : decode cX2_cut 35 = .ok (.iload_n 1, 1) := by decide +kernel
theorem dX2_cut_36 : decode cX2_cut 36 = .ok (.i2s, 1) := by decide +kernel
theorem dX2_cut_37 : decode cX2_cut 37 = .ok (.ireturn, 1) := by decide +kernel
theorem dX2_cut_38 : decode cX2_cut 38 = .ok (.iload_n 1, 1) := by decide +kernel
theorem dX2_cut_39 : decode cX2_cut 39 = .ok (.ireturn, 1) := by decide +kernel
theorem dX3_firstFault_0 : decode cX3_firstFault 0 = .ok (.bipush 8, 2) := by decide +kernel
theorem dX3_firstFault_2 : decode cX3_firstFault 2 = .ok (.istore_n 3, 1) := by decide +kernel
theorem dX3_firstFault_3 : decode cX3_firstFault 3 = .ok (.iconst 0, 1) := by decide +kernel
theorem dX3_firstFault_4 : decode cX3_firstFault 4 = .ok (.istore 4, 2) := by decide +kernel
theorem dX3_firstFault_6 : decode cX3_firstFault 6 = .ok (.iload 4, 2) := by decide +kernel
theorem dX3_firstFault_8 : decode cX3_firstFault 8 = .ok (.iload_n 2, 1) := by decide +kernel
theorem dX3_firstFault_9 : decode cX3_firstFault 9 = .ok (.if_icmp .ge 45, 3) := by decide +kernel
theorem dX3_firstFault_12 : decode cX3_firstFault 12 = .ok (.aload_n 0, 1) := by decide +kernel
theorem dX3_firstFault_13 : decode cX3_firstFault 13 = .ok (.iload_n 1, 1) := by decide +kernel
theorem dX3_firstFault_14 : decode cX3_firstFault 14 = .ok (.iload 4, 2) := by decide +kernel
theorem dX3_firstFault_16 : decode cX3_firstFault 16 = .ok (.iadd, 1) := by decide +kernel
theorem dX3_firstFault_17 : decode cX3_firstFault 17 = .ok (.invokevirtual 9, 3) := by decide +kernel
theorem dX3_firstFault_20 : decode cX3_firstFault 20 = .ok (.istore 5, 2) := by decide +kernel
theorem dX3_firstFault_22 : decode cX3_firstFault 22 = .ok (.iload 4, 2) := by decide +kernel
theorem dX3_firstFault_24 : decode cX3_firstFault 24 = .ok (.iload 5, 2) := by decide +kernel
theorem dX3_firstFault_26 : decode cX3_firstFault 26 = .ok (.iload_n 3, 1) := by decide +kernel
theorem dX3_firstFault_27 : decode cX3_firstFault 27 = .ok (.invokestatic 15, 3) := by decide +kernel
theorem dX3_firstFault_30 : decode cX3_firstFault 30 = .ok (.ifCond .ne 6, 3) := by decide +kernel
theorem dX3_firstFault_33 : decode cX3_firstFault 33 = .ok (.iload 4, 2) := by decide +kernel
theorem dX3_firstFault_35 : decode cX3_firstFault 35 = .ok (.ireturn, 1) := by decide +kernel
theorem dX3_firstFault_36 : decode cX3_firstFault 36 = .ok (.iload 4, 2) := by decide +kernel
theorem dX3_firstFault_38 : decode cX3_firstFault 38 = .ok (.iconst 1, 1) := by decide +kernel
theorem dX3_firstFault_39 : decode cX3_firstFault 39 = .ok (.if_icmp .ne 9, 3) := by decide +kernel
theorem dX3_firstFault_42 : decode cX3_firstFault 42 = .ok (.iload 5, 2) := by decide +kernel
theorem dX3_firstFault_44 : decode cX3_firstFault 44 = .ok (.bipush 48, 2) := by decide +kernel
theorem dX3_firstFault_46 : decode cX3_firstFault 46 = .ok (.isub, 1) := by decide +kernel
theorem dX3_firstFault_47 : decode cX3_firstFault 47 = .ok (.istore_n 3, 1) := by decide +kernel
theorem dX3_firstFault_48 : decode cX3_firstFault 48 = .ok (.iinc 4 1, 3) := by decide +kernel
theorem dX3_firstFault_51 : decode cX3_firstFault 51 = .ok (.goto (-45), 3) := by decide +kernel
theorem dX3_firstFault_54 : decode cX3_firstFault 54 = .ok (.iload_n 2, 1) := by decide +kernel
theorem dX3_firstFault_55 : decode cX3_firstFault 55 = .ok (.iconst 3, 1) := by decide +kernel
theorem dX3_firstFault_56 : decode cX3_firstFault 56 = .ok (.iload_n 3, 1) := by decide +kernel
theorem dX3_firstFault_57 : decode cX3_firstFault 57 = .ok (.imul, 1) := by decide +kernel
theorem dX3_firstFault_58 : decode cX3_firstFault 58 = .ok (.if_icmp .ne 8, 3) := by decide +kernel
theorem dX3_firstFault_61 : decode cX3_firstFault 61 = .ok (.bipush (-9), 2) := by decide +kernel
theorem dX3_firstFault_63 : decode cX3_firstFault 63 = .ok (.goto 4, 3) := by decide +kernel
theorem dX3_firstFault_66 : decode cX3_firstFault 66 = .ok (.iload_n 2, 1) := by decide +kernel
theorem dX3_firstFault_67 : decode cX3_firstFault 67 = .ok (.ireturn, 1) := by decide +kernel
theorem dX3_goesOn_0 : decode cX3_goesOn 0 = .ok (.iload_n 0, 1) := by decide +kernel
theorem dX3_goesOn_1 : decode cX3_goesOn 1 = .ok (.ifCond .ne 15, 3) := by decide +kernel
theorem dX3_goesOn_4 : decode cX3_goesOn 4 = .ok (.iload_n 1, 1) := by decide +kernel
theorem dX3_goesOn_5 : decode cX3_goesOn 5 = .ok (.bipush 118, 2) := by decide +kernel
theorem dX3_goesOn_7 : decode cX3_goesOn 7 = .ok (.if_icmp .ne 7, 3) := by decide +kernel
theorem dX3_goesOn_10 : decode cX3_goesOn 10 = .ok (.iconst 1, 1) := by decide +kernel
theorem dX3_goesOn_11 : decode cX3_goesOn 11 = .ok (.goto 4, 3) := by decide +kernel
theorem dX3_goesOn_14 : decode cX3_goesOn 14 = .ok (.iconst 0, 1) := by decide +kernel
theorem dX3_goesOn_15 : decode cX3_goesOn 15 = .ok (.ireturn, 1) := by decide +kernel
theorem dX3_goesOn_16 : decode cX3_goesOn 16 = .ok (.iload_n 0, 1) := by decide +kernel
theorem dX3_goesOn_17 : decode cX3_goesOn 17 = .ok (.iconst 1, 1) := by decide +kernel
theorem dX3_goesOn_18 : decode cX3_goesOn 18 = .ok (.if_icmp .ne 21, 3) := by decide +kernel
theorem dX3_goesOn_21 : decode cX3_goesOn 21 = .ok (.iload_n 1, 1) := by decide +kernel
theorem dX3_goesOn_22 : decode cX3_goesOn 22 = .ok (.bipush 50, 2) := by decide +kernel
theorem dX3_goesOn_24 : decode cX3_goesOn 24 = .ok (.if_icmp .lt 13, 3) := by decide +kernel
theorem dX3_goesOn_27 : decode cX3_goesOn 27 = .ok (.iload_n 1, 1) := by decide +kernel
theorem dX3_goesOn_28 : decode cX3_goesOn 28 = .ok (.bipush 56, 2) := by decide +kernel
theorem dX3_goesOn_30 : decode cX3_goesOn 30 = .ok (.if_icmp .gt 7, 3) := by decide +kernel
theorem dX3_goesOn_33 : decode cX3_goesOn 33 = .ok (.iconst 1, 1) := by decide +kernel
theorem dX3_goesOn_34 : decode cX3_goesOn 34 = .ok (.goto 4, 3) := by decide +kernel
theorem dX3_goesOn_37 : decode cX3_goesOn 37 = .ok (.iconst 0, 1) := by decide +kernel
theorem dX3_goesOn_38 : decode cX3_goesOn 38 = .ok (.ireturn, 1) := by decide +kernel
theorem dX3_goesOn_39 : decode cX3_goesOn 39 = .ok (.iload_n 0, 1) := by decide +kernel
theorem dX3_goesOn_40 : decode cX3_goesOn 40 = .ok (.iload_n 2, 1) := by decide +kernel
theorem dX3_goesOn_41 : decode cX3_goesOn 41 = .ok (.if_icmp .ge 23, 3) := by decide +kernel
theorem dX3_goesOn_44 : decode cX3_goesOn 44 = .ok (.iload_n 1, 1) := by decide +kernel
theorem dX3_goesOn_45 : decode cX3_goesOn 45 = .ok (.bipush 48, 2) := by decide +kernel
theorem dX3_goesOn_47 : decode cX3_goesOn 47 = .ok (.if_icmp .lt 15, 3) := by decide +kernel
theorem dX3_goesOn_50 : decode cX3_goesOn 50 = .ok (.iload_n 1, 1) := by decide +kernel
theorem dX3_goesOn_51 : decode cX3_goesOn 51 = .ok (.bipush 48, 2) := by decide +kernel
theorem dX3_goesOn_53 : decode cX3_goesOn 53 = .ok (.iload_n 2, 1) := by decide +kernel
theorem dX3_goesOn_54 : decode cX3_goesOn 54 = .ok (.iadd, 1) := by decide +kernel
theorem dX3_goesOn_55 : decode cX3_goesOn 55 = .ok (.if_icmp .ge 7, 3) := by decide +kernel
theorem dX3_goesOn_58 : decode cX3_goesOn 58 = .ok (.iconst 1, 1) := by decide +kernel
theorem dX3_goesOn_59 : decode cX3_goesOn 59 = .ok (.goto 4, 3) := by decide +kernel
theorem dX3_goesOn_62 : decode cX3_goesOn 62 = .ok (.iconst 0, 1) := by decide +kernel
theorem dX3_goesOn_63 : decode cX3_goesOn 63 = .ok (.ireturn, 1) := by decide +kernel
theorem dX3_goesOn_64 : decode cX3_goesOn 64 = .ok (.iload_n 0, 1) := by decide +kernel
theorem dX3_goesOn_65 : decode cX3_goesOn 65 = .ok (.iconst 3, 1) := by decide +kernel
theorem dX3_goesOn_66 : decode cX3_goesOn 66 = .ok (.iload_n 2, 1) := by decide +kernel
theorem dX3_goesOn_67 : decode cX3_goesOn 67 = .ok (.imul, 1) := by decide +kernel
theorem dX3_goesOn_68 : decode cX3_goesOn 68 = .ok (.if_icmp .lt 5, 3) := by decide +kernel
theorem dX3_goesOn_71 : decode cX3_goesOn 71 = .ok (.iconst 0, 1) := by decide +kernel
theorem dX3_goesOn_72 : decode cX3_goesOn 72 = .ok (.ireturn, 1) := by decide +kernel
theorem dX3_goesOn_73 : decode cX3_goesOn 73 = .ok (.iload_n 0, 1) := by decide +kernel
theorem dX3_goesOn_74 : decode cX3_goesOn 74 = .ok (.iload_n 2, 1) := by decide +kernel
theorem dX3_goesOn_75 : decode cX3_goesOn 75 = .ok (.isub, 1) := by decide +kernel
theorem dX3_goesOn_76 : decode cX3_goesOn 76 = .ok (.iconst 2, 1) := by decide +kernel
theorem dX3_goesOn_77 : decode cX3_goesOn 77 = .ok (.irem, 1) := by decide +kernel
theorem dX3_goesOn_78 : decode cX3_goesOn 78 = .ok (.ifCond .ne 7, 3) := by decide +kernel
theorem dX3_goesOn_81 : decode cX3_goesOn 81 = .ok (.iconst 1, 1) := by decide +kernel
theorem dX3_goesOn_82 : decode cX3_goesOn 82 = .ok (.goto 4, 3) := by decide +kernel
theorem dX3_goesOn_85 : decode cX3_goesOn 85 = .ok (.iconst 0, 1) := by decide +kernel
theorem dX3_goesOn_86 : decode cX3_goesOn 86 = .ok (.istore_n 3, 1) := by decide +kernel
theorem dX3_goesOn_87 : decode cX3_goesOn 87 = .ok (.iload_n 3, 1) := by decide +kernel
theorem dX3_goesOn_88 : decode cX3_goesOn 88 = .ok (.ifCond .eq 20, 3) := by decide +kernel
theorem dX3_goesOn_91 : decode cX3_goesOn 91 = .ok (.iload_n 1, 1) := by decide +kernel
theorem dX3_goesOn_92 : decode cX3_goesOn 92 = .ok (.invokestatic 21, 3) := by decide +kernel
theorem dX3_goesOn_95 : decode cX3_goesOn 95 = .ok (.bipush (-9), 2) := by decide +kernel
theorem dX3_goesOn_97 : decode cX3_goesOn 97 = .ok (.if_icmp .eq 7, 3) := by decide +kernel
theorem dX3_goesOn_100 : decode cX3_goesOn 100 = .ok (.iconst 1, 1) := by decide +kernel
theorem dX3_goesOn_101 : decode cX3_goesOn 101 = .ok (.goto 24, 3) := by decide +kernel
theorem dX3_goesOn_104 : decode cX3_goesOn 104 = .ok (.iconst 0, 1) := by decide +kernel
theorem dX3_goesOn_105 : decode cX3_goesOn 105 = .ok (.goto 20, 3) := by decide +kernel
theorem dX3_goesOn_108 : decode cX3_goesOn 108 = .ok (.iload_n 1, 1) := by decide +kernel
theorem dX3_goesOn_109 : decode cX3_goesOn 109 = .ok (.bipush 48, 2) := by decide +kernel
theorem dX3_goesOn_111 : decode cX3_goesOn 111 = .ok (.if_icmp .lt 13, 3) := by decide +kernel
theorem dX3_goesOn_114 : decode cX3_goesOn 114 = .ok (.iload_n 1, 1) := by decide +kernel
theorem dX3_goesOn_115 : decode cX3_goesOn 115 = .ok (.bipush 57, 2) := by decide +kernel
theorem dX3_goesOn_117 : decode cX3_goesOn 117 = .ok (.if_icmp .gt 7, 3) := by decide +kernel
theorem dX3_goesOn_120 : decode cX3_goesOn 120 = .ok (.iconst 1, 1) := by decide +kernel
theorem dX3_goesOn_121 : decode cX3_goesOn 121 = .ok (.goto 4, 3) := by decide +kernel
theorem dX3_goesOn_124 : decode cX3_goesOn 124 = .ok (.iconst 0, 1) := by decide +kernel
theorem dX3_goesOn_125 : decode cX3_goesOn 125 = .ok (.ireturn, 1) := by decide +kernel
theorem dX3_kindOf_0 : decode cX3_kindOf 0 = .ok (.iload_n 0, 1) := by decide +kernel
theorem dX3_kindOf_1 : decode cX3_kindOf 1 = .ok (.lookupswitch 41 #[(98, 37), (100, 39), (112, 35)], 35) := by decide +kernel
theorem dX3_kindOf_36 : decode cX3_kindOf 36 = .ok (.iconst 0, 1) := by decide +kernel
theorem dX3_kindOf_37 : decode cX3_kindOf 37 = .ok (.ireturn, 1) := by decide +kernel
theorem dX3_kindOf_38 : decode cX3_kindOf 38 = .ok (.iconst 1, 1) := by decide +kernel
theorem dX3_kindOf_39 : decode cX3_kindOf 39 = .ok (.ireturn, 1) := by decide +kernel
theorem dX3_kindOf_40 : decode cX3_kindOf 40 = .ok (.iconst 2, 1) := by decide +kernel
theorem dX3_kindOf_41 : decode cX3_kindOf 41 = .ok (.ireturn, 1) := by decide +kernel
theorem dX3_kindOf_42 : decode cX3_kindOf 42 = .ok (.bipush (-9), 2) := by decide +kernel
theorem dX3_kindOf_44 : decode cX3_kindOf 44 = .ok (.ireturn, 1) := by decide +kernel
theorem dX3_digitAt_0 : decode cX3_digitAt 0 = .ok (.iconst 0, 1) := by decide +kernel
theorem dX3_digitAt_1 : decode cX3_digitAt 1 = .ok (.iload_n 2, 1) := by decide +kernel
theorem dX3_digitAt_2 : decode cX3_digitAt 2 = .ok (.aload_n 0, 1) := by decide +kernel
theorem dX3_digitAt_3 : decode cX3_digitAt 3 = .ok (.iload_n 1, 1) := by decide +kernel
theorem dX3_digitAt_4 : decode cX3_digitAt 4 = .ok (.invokevirtual 9, 3) := by decide +kernel
theorem dX3_digitAt_7 : decode cX3_digitAt 7 = .ok (.bipush 48, 2) := by decide +kernel
theorem dX3_digitAt_9 : decode cX3_digitAt 9 = .ok (.isub, 1) := by decide +kernel
theorem dX3_digitAt_10 : decode cX3_digitAt 10 = .ok (.invokestatic 24, 3) := by decide +kernel
theorem dX3_digitAt_13 : decode cX3_digitAt 13 = .ok (.invokestatic 30, 3) := by decide +kernel
theorem dX3_digitAt_16 : decode cX3_digitAt 16 = .ok (.ireturn, 1) := by decide +kernel
theorem dJ6_bitCount_0f7a4_0 : decode cJ6_bitCount_0f7a4 0 = .ok (.iload_n 0, 1) := by decide +kernel
theorem dJ6_bitCount_0f7a4_1 : decode cJ6_bitCount_0f7a4 1 = .ok (.iload_n 0, 1) := by decide +kernel
theorem dJ6_bitCount_0f7a4_2 : decode cJ6_bitCount_0f7a4 2 = .ok (.iconst 1, 1) := by decide +kernel
theorem dJ6_bitCount_0f7a4_3 : decode cJ6_bitCount_0f7a4 3 = .ok (.iushr, 1) := by decide +kernel
theorem dJ6_bitCount_0f7a4_4 : decode cJ6_bitCount_0f7a4 4 = .ok (.ldc_w 265, 3) := by decide +kernel
theorem dJ6_bitCount_0f7a4_7 : decode cJ6_bitCount_0f7a4 7 = .ok (.iand, 1) := by decide +kernel
theorem dJ6_bitCount_0f7a4_8 : decode cJ6_bitCount_0f7a4 8 = .ok (.isub, 1) := by decide +kernel
theorem dJ6_bitCount_0f7a4_9 : decode cJ6_bitCount_0f7a4 9 = .ok (.istore_n 0, 1) := by decide +kernel
theorem dJ6_bitCount_0f7a4_10 : decode cJ6_bitCount_0f7a4 10 = .ok (.iload_n 0, 1) := by decide +kernel
theorem dJ6_bitCount_0f7a4_11 : decode cJ6_bitCount_0f7a4 11 = .ok (.ldc_w 266, 3) := by decide +kernel
theorem dJ6_bitCount_0f7a4_14 : decode cJ6_bitCount_0f7a4 14 = .ok (.iand, 1) := by decide +kernel
theorem dJ6_bitCount_0f7a4_15 : decode cJ6_bitCount_0f7a4 15 = .ok (.iload_n 0, 1) := by decide +kernel
theorem dJ6_bitCount_0f7a4_16 : decode cJ6_bitCount_0f7a4 16 = .ok (.iconst 2, 1) := by decide +kernel
theorem dJ6_bitCount_0f7a4_17 : decode cJ6_bitCount_0f7a4 17 = .ok (.iushr, 1) := by decide +kernel
theorem dJ6_bitCount_0f7a4_18 : decode cJ6_bitCount_0f7a4 18 = .ok (.ldc_w 266, 3) := by decide +kernel
theorem dJ6_bitCount_0f7a4_21 : decode cJ6_bitCount_0f7a4 21 = .ok (.iand, 1) := by decide +kernel
theorem dJ6_bitCount_0f7a4_22 : decode cJ6_bitCount_0f7a4 22 = .ok (.iadd, 1) := by decide +kernel
theorem dJ6_bitCount_0f7a4_23 : decode cJ6_bitCount_0f7a4 23 = .ok (.istore_n 0, 1) := by decide +kernel
theorem dJ6_bitCount_0f7a4_24 : decode cJ6_bitCount_0f7a4 24 = .ok (.iload_n 0, 1) := by decide +kernel
theorem dJ6_bitCount_0f7a4_25 : decode cJ6_bitCount_0f7a4 25 = .ok (.iload_n 0, 1) := by decide +kernel
theorem dJ6_bitCount_0f7a4_26 : decode cJ6_bitCount_0f7a4 26 = .ok (.iconst 4, 1) := by decide +kernel
theorem dJ6_bitCount_0f7a4_27 : decode cJ6_bitCount_0f7a4 27 = .ok (.iushr, 1) := by decide +kernel
theorem dJ6_bitCount_0f7a4_28 : decode cJ6_bitCount_0f7a4 28 = .ok (.iadd, 1) := by decide +kernel
theorem dJ6_bitCount_0f7a4_29 : decode cJ6_bitCount_0f7a4 29 = .ok (.ldc_w 267, 3) := by decide +kernel
theorem dJ6_bitCount_0f7a4_32 : decode cJ6_bitCount_0f7a4 32 = .ok (.iand, 1) := by decide +kernel
theorem dJ6_bitCount_0f7a4_33 : decode cJ6_bitCount_0f7a4 33 = .ok (.istore_n 0, 1) := by decide +kernel
theorem dJ6_bitCount_0f7a4_34 : decode cJ6_bitCount_0f7a4 34 = .ok (.iload_n 0, 1) := by decide +kernel
theorem dJ6_bitCount_0f7a4_35 : decode cJ6_bitCount_0f7a4 35 = .ok (.iload_n 0, 1) := by decide +kernel
theorem dJ6_bitCount_0f7a4_36 : decode cJ6_bitCount_0f7a4 36 = .ok (.bipush 8, 2) := by decide +kernel
theorem dJ6_bitCount_0f7a4_38 : decode cJ6_bitCount_0f7a4 38 = .ok (.iushr, 1) := by decide +kernel
theorem dJ6_bitCount_0f7a4_39 : decode cJ6_bitCount_0f7a4 39 = .ok (.iadd, 1) := by decide +kernel
theorem dJ6_bitCount_0f7a4_40 : decode cJ6_bitCount_0f7a4 40 = .ok (.istore_n 0, 1) := by decide +kernel
theorem dJ6_bitCount_0f7a4_41 : decode cJ6_bitCount_0f7a4 41 = .ok (.iload_n 0, 1) := by decide +kernel
theorem dJ6_bitCount_0f7a4_42 : decode cJ6_bitCount_0f7a4 42 = .ok (.iload_n 0, 1) := by decide +kernel
theorem dJ6_bitCount_0f7a4_43 : decode cJ6_bitCount_0f7a4 43 = .ok (.bipush 16, 2) := by decide +kernel
theorem dJ6_bitCount_0f7a4_45 : decode cJ6_bitCount_0f7a4 45 = .ok (.iushr, 1) := by decide +kernel
theorem dJ6_bitCount_0f7a4_46 : decode cJ6_bitCount_0f7a4 46 = .ok (.iadd, 1) := by decide +kernel
theorem dJ6_bitCount_0f7a4_47 : decode cJ6_bitCount_0f7a4 47 = .ok (.istore_n 0, 1) := by decide +kernel
theorem dJ6_bitCount_0f7a4_48 : decode cJ6_bitCount_0f7a4 48 = .ok (.iload_n 0, 1) := by decide +kernel
theorem dJ6_bitCount_0f7a4_49 : decode cJ6_bitCount_0f7a4 49 = .ok (.bipush 63, 2) := by decide +kernel
theorem dJ6_bitCount_0f7a4_51 : decode cJ6_bitCount_0f7a4 51 = .ok (.iand, 1) := by decide +kernel
theorem dJ6_bitCount_0f7a4_52 : decode cJ6_bitCount_0f7a4 52 = .ok (.ireturn, 1) := by decide +kernel
