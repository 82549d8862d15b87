theorem dX6_put_94 : decode cX6_put 94 = .ok (.iconst 1, 1) := by decide +kernel
theorem dX6_put_95 : decode cX6_put 95 = .ok (.ireturn, 1) := by decide +kernel
theorem dX6_cell_0 : decode cX6_cell 0 = .ok (.aload_n 0, 1) := by decide +kernel
theorem dX6_cell_1 : decode cX6_cell 1 = .ok (.iconst 0, 1) := by decide +kernel
theorem dX6_cell_2 : decode cX6_cell 2 = .ok (.putfield 70, 3) := by decide +kernel
theorem dX6_cell_5 : decode cX6_cell 5 = .ok (.iload_n 1, 1) := by decide +kernel
theorem dX6_cell_6 : decode cX6_cell 6 = .ok (.invokestatic 94, 3) := by decide +kernel
theorem dX6_cell_9 : decode cX6_cell 9 = .ok (.ifCond .eq 10, 3) := by decide +kernel
theorem dX6_cell_12 : decode cX6_cell 12 = .ok (.iload_n 3, 1) := by decide +kernel
theorem dX6_cell_13 : decode cX6_cell 13 = .ok (.invokestatic 97, 3) := by decide +kernel
theorem dX6_cell_16 : decode cX6_cell 16 = .ok (.ifCond .ne 7, 3) := by decide +kernel
theorem dX6_cell_19 : decode cX6_cell 19 = .ok (.ldc2_w 74, 3) := by decide +kernel
theorem dX6_cell_22 : decode cX6_cell 22 = .ok (.lreturn, 1) := by decide +kernel
theorem dX6_cell_23 : decode cX6_cell 23 = .ok (.aload_n 0, 1) := by decide +kernel
theorem dX6_cell_24 : decode cX6_cell 24 = .ok (.getfield 9, 3) := by decide +kernel
theorem dX6_cell_27 : decode cX6_cell 27 = .ok (.iload_n 1, 1) := by decide +kernel
theorem dX6_cell_28 : decode cX6_cell 28 = .ok (.iaload, 1) := by decide +kernel
theorem dX6_cell_29 : decode cX6_cell 29 = .ok (.bipush (-9), 2) := by decide +kernel
theorem dX6_cell_31 : decode cX6_cell 31 = .ok (.if_icmp .eq 19, 3) := by decide +kernel
theorem dX6_cell_34 : decode cX6_cell 34 = .ok (.aload_n 0, 1) := by decide +kernel
theorem dX6_cell_35 : decode cX6_cell 35 = .ok (.getfield 9, 3) := by decide +kernel
theorem dX6_cell_38 : decode cX6_cell 38 = .ok (.iload_n 1, 1) := by decide +kernel
theorem dX6_cell_39 : decode cX6_cell 39 = .ok (.iaload, 1) := by decide +kernel
theorem dX6_cell_40 : decode cX6_cell 40 = .ok (.iload_n 3, 1) := by decide +kernel
theorem dX6_cell_41 : decode cX6_cell 41 = .ok (.if_icmp .eq 9, 3) := by decide +kernel
theorem dX6_cell_44 : decode cX6_cell 44 = .ok (.aload_n 0, 1) := by decide +kernel
theorem dX6_cell_45 : decode cX6_cell 45 = .ok (.iconst 2, 1) := by decide +kernel
theorem dX6_cell_46 : decode cX6_cell 46 = .ok (.invokevirtual 208, 3) := by decide +kernel
theorem dX6_cell_49 : decode cX6_cell 49 = .ok (.lreturn, 1) := by decide +kernel
theorem dX6_cell_50 : decode cX6_cell 50 = .ok (.aload_n 0, 1) := by decide +kernel
theorem dX6_cell_51 : decode cX6_cell 51 = .ok (.getfield 9, 3) := by decide +kernel
theorem dX6_cell_54 : decode cX6_cell 54 = .ok (.iload_n 1, 1) := by decide +kernel
theorem dX6_cell_55 : decode cX6_cell 55 = .ok (.iaload, 1) := by decide +kernel
theorem dX6_cell_56 : decode cX6_cell 56 = .ok (.bipush (-9), 2) := by decide +kernel
theorem dX6_cell_58 : decode cX6_cell 58 = .ok (.if_icmp .ne 9, 3) := by decide +kernel
theorem dX6_cell_61 : decode cX6_cell 61 = .ok (.aload_n 0, 1) := by decide +kernel
theorem dX6_cell_62 : decode cX6_cell 62 = .ok (.iconst 1, 1) := by decide +kernel
theorem dX6_cell_63 : decode cX6_cell 63 = .ok (.invokevirtual 208, 3) := by decide +kernel
theorem dX6_cell_66 : decode cX6_cell 66 = .ok (.lreturn, 1) := by decide +kernel
theorem dX6_cell_67 : decode cX6_cell 67 = .ok (.iload_n 2, 1) := by decide +kernel
theorem dX6_cell_68 : decode cX6_cell 68 = .ok (.iconst 0, 1) := by decide +kernel
theorem dX6_cell_69 : decode cX6_cell 69 = .ok (.aload_n 0, 1) := by decide +kernel
theorem dX6_cell_70 : decode cX6_cell 70 = .ok (.getfield 13, 3) := by decide +kernel
theorem dX6_cell_73 : decode cX6_cell 73 = .ok (.iload_n 1, 1) := by decide +kernel
theorem dX6_cell_74 : decode cX6_cell 74 = .ok (.iaload, 1) := by decide +kernel
theorem dX6_cell_75 : decode cX6_cell 75 = .ok (.iconst 1, 1) := by decide +kernel
theorem dX6_cell_76 : decode cX6_cell 76 = .ok (.isub, 1) := by decide +kernel
theorem dX6_cell_77 : decode cX6_cell 77 = .ok (.invokestatic 76, 3) := by decide +kernel
theorem dX6_cell_80 : decode cX6_cell 80 = .ok (.ifCond .ne 9, 3) := by decide +kernel
theorem dX6_cell_83 : decode cX6_cell 83 = .ok (.aload_n 0, 1) := by decide +kernel
theorem dX6_cell_84 : decode cX6_cell 84 = .ok (.iconst 3, 1) := by decide +kernel
theorem dX6_cell_85 : decode cX6_cell 85 = .ok (.invokevirtual 208, 3) := by decide +kernel
theorem dX6_cell_88 : decode cX6_cell 88 = .ok (.lreturn, 1) := by decide +kernel
theorem dX6_cell_89 : decode cX6_cell 89 = .ok (.aload_n 0, 1) := by decide +kernel
theorem dX6_cell_90 : decode cX6_cell 90 = .ok (.getfield 16, 3) := by decide +kernel
theorem dX6_cell_93 : decode cX6_cell 93 = .ok (.bipush 60, 2) := by decide +kernel
theorem dX6_cell_95 : decode cX6_cell 95 = .ok (.iload_n 1, 1) := by decide +kernel
theorem dX6_cell_96 : decode cX6_cell 96 = .ok (.imul, 1) := by decide +kernel
theorem dX6_cell_97 : decode cX6_cell 97 = .ok (.iload_n 2, 1) := by decide +kernel
theorem dX6_cell_98 : decode cX6_cell 98 = .ok (.iadd, 1) := by decide +kernel
theorem dX6_cell_99 : decode cX6_cell 99 = .ok (.iaload, 1) := by decide +kernel
theorem dX6_cell_100 : decode cX6_cell 100 = .ok (.i2l, 1) := by decide +kernel
theorem dX6_cell_101 : decode cX6_cell 101 = .ok (.lreturn, 1) := by decide +kernel
theorem dX6_copy_0 : decode cX6_copy 0 = .ok (.aload_n 0, 1) := by decide +kernel
theorem dX6_copy_1 : decode cX6_copy 1 = .ok (.iconst 0, 1) := by decide +kernel
theorem dX6_copy_2 : decode cX6_copy 2 = .ok (.putfield 70, 3) := by decide +kernel
theorem dX6_copy_5 : decode cX6_copy 5 = .ok (.iload_n 1, 1) := by decide +kernel
theorem dX6_copy_6 : decode cX6_copy 6 = .ok (.invokestatic 94, 3) := by decide +kernel
theorem dX6_copy_9 : decode cX6_copy 9 = .ok (.ifCond .eq 10, 3) := by decide +kernel
theorem dX6_copy_12 : decode cX6_copy 12 = .ok (.iload_n 3, 1) := by decide +kernel
theorem dX6_copy_13 : decode cX6_copy 13 = .ok (.invokestatic 94, 3) := by decide +kernel
theorem dX6_copy_16 : decode cX6_copy 16 = .ok (.ifCond .ne 5, 3) := by decide +kernel
theorem dX6_copy_19 : decode cX6_copy 19 = .ok (.iconst (-1), 1) := by decide +kernel
theorem dX6_copy_20 : decode cX6_copy 20 = .ok (.ireturn, 1) := by decide +kernel
theorem dX6_copy_21 : decode cX6_copy 21 = .ok (.aload_n 0, 1) := by decide +kernel
theorem dX6_copy_22 : decode cX6_copy 22 = .ok (.getfield 9, 3) := by decide +kernel
theorem dX6_copy_25 : decode cX6_copy 25 = .ok (.iload_n 1, 1) := by decide +kernel
theorem dX6_copy_26 : decode cX6_copy 26 = .ok (.iaload, 1) := by decide +kernel
theorem dX6_copy_27 : decode cX6_copy 27 = .ok (.bipush (-9), 2) := by decide +kernel
theorem dX6_copy_29 : decode cX6_copy 29 = .ok (.if_icmp .eq 14, 3) := by decide +kernel
theorem dX6_copy_32 : decode cX6_copy 32 = .ok (.aload_n 0, 1) := by decide +kernel
theorem dX6_copy_33 : decode cX6_copy 33 = .ok (.getfield 9, 3) := by decide +kernel
theorem dX6_copy_36 : decode cX6_copy 36 = .ok (.iload_n 3, 1) := by decide +kernel
theorem dX6_copy_37 : decode cX6_copy 37 = .ok (.iaload, 1) := by decide +kernel
theorem dX6_copy_38 : decode cX6_copy 38 = .ok (.bipush (-9), 2) := by decide +kernel
theorem dX6_copy_40 : decode cX6_copy 40 = .ok (.if_icmp .ne 9, 3) := by decide +kernel
theorem dX6_copy_43 : decode cX6_copy 43 = .ok (.aload_n 0, 1) := by decide +kernel
theorem dX6_copy_44 : decode cX6_copy 44 = .ok (.iconst 1, 1) := by decide +kernel
theorem dX6_copy_45 : decode cX6_copy 45 = .ok (.invokevirtual 104, 3) := by decide +kernel
theorem dX6_copy_48 : decode cX6_copy 48 = .ok (.ireturn, 1) := by decide +kernel
theorem dX6_copy_49 : decode cX6_copy 49 = .ok (.aload_n 0, 1) := by decide +kernel
theorem dX6_copy_50 : decode cX6_copy 50 = .ok (.getfield 9, 3) := by decide +kernel
theorem dX6_copy_53 : decode cX6_copy 53 = .ok (.iload_n 1, 1) := by decide +kernel
theorem dX6_copy_54 : decode cX6_copy 54 = .ok (.iaload, 1) := by decide +kernel
theorem dX6_copy_55 : decode cX6_copy 55 = .ok (.aload_n 0, 1) := by decide +kernel
theorem dX6_copy_56 : decode cX6_copy 56 = .ok (.getfield 9, 3) := by decide +kernel
theorem dX6_copy_59 : decode cX6_copy 59 = .ok (.iload_n 3, 1) := by decide +kernel
theorem dX6_copy_60 : decode cX6_copy 60 = .ok (.iaload, 1) := by decide +kernel
theorem dX6_copy_61 : decode cX6_copy 61 = .ok (.if_icmp .eq 9, 3) := by decide +kernel
theorem dX6_copy_64 : decode cX6_copy 64 = .ok (.aload_n 0, 1) := by decide +kernel
theorem dX6_copy_65 : decode cX6_copy 65 = .ok (.iconst 2, 1) := by decide +kernel
theorem dX6_copy_66 : decode cX6_copy 66 = .ok (.invokevirtual 104, 3) := by decide +kernel
theorem dX6_copy_69 : decode cX6_copy 69 = .ok (.ireturn, 1) := by decide +kernel
theorem dX6_copy_70 : decode cX6_copy 70 = .ok (.iload_n 2, 1) := by decide +kernel
theorem dX6_copy_71 : decode cX6_copy 71 = .ok (.ifCond .lt 38, 3) := by decide +kernel
theorem dX6_copy_74 : decode cX6_copy 74 = .ok (.iload 4, 2) := by decide +kernel
theorem dX6_copy_76 : decode cX6_copy 76 = .ok (.ifCond .lt 33, 3) := by decide +kernel
theorem dX6_copy_79 : decode cX6_copy 79 = .ok (.iload 5, 2) := by decide +kernel
theorem dX6_copy_81 : decode cX6_copy 81 = .ok (.ifCond .lt 28, 3) := by decide +kernel
theorem dX6_copy_84 : decode cX6_copy 84 = .ok (.iload_n 2, 1) := by decide +kernel
theorem dX6_copy_85 : decode cX6_copy 85 = .ok (.aload_n 0, 1) := by decide +kernel
theorem dX6_copy_86 : decode cX6_copy 86 = .ok (.getfield 13, 3) := by decide +kernel
theorem dX6_copy_89 : decode cX6_copy 89 = .ok (.iload_n 1, 1) := by decide +kernel
theorem dX6_copy_90 : decode cX6_copy 90 = .ok (.iaload, 1) := by decide +kernel
theorem dX6_copy_91 : decode cX6_copy 91 = .ok (.if_icmp .gt 18, 3) := by decide +kernel
theorem dX6_copy_94 : decode cX6_copy 94 = .ok (.iload 4, 2) := by decide +kernel
theorem dX6_copy_96 : decode cX6_copy 96 = .ok (.aload_n 0, 1) := by decide +kernel
theorem dX6_copy_97 : decode cX6_copy 97 = .ok (.getfield 13, 3) := by decide +kernel
theorem dX6_copy_100 : decode cX6_copy 100 = .ok (.iload_n 3, 1) := by decide +kernel
theorem dX6_copy_101 : decode cX6_copy 101 = .ok (.iaload, 1) := by decide +kernel
theorem dX6_copy_102 : decode cX6_copy 102 = .ok (.if_icmp .gt 7, 3) := by decide +kernel
theorem dX6_copy_105 : decode cX6_copy 105 = .ok (.iconst 1, 1) := by decide +kernel
theorem dX6_copy_106 : decode cX6_copy 106 = .ok (.goto 4, 3) := by decide +kernel
theorem dX6_copy_109 : decode cX6_copy 109 = .ok (.iconst 0, 1) := by decide +kernel
theorem dX6_copy_110 : decode cX6_copy 110 = .ok (.istore 6, 2) := by decide +kernel
theorem dX6_copy_112 : decode cX6_copy 112 = .ok (.iload 6, 2) := by decide +kernel
theorem dX6_copy_114 : decode cX6_copy 114 = .ok (.ifCond .eq 30, 3) := by decide +kernel
theorem dX6_copy_117 : decode cX6_copy 117 = .ok (.iload 5, 2) := by decide +kernel
theorem dX6_copy_119 : decode cX6_copy 119 = .ok (.aload_n 0, 1) := by decide +kernel
theorem dX6_copy_120 : decode cX6_copy 120 = .ok (.getfield 13, 3) := by decide +kernel
theorem dX6_copy_123 : decode cX6_copy 123 = .ok (.iload_n 1, 1) := by decide +kernel
theorem dX6_copy_124 : decode cX6_copy 124 = .ok (.iaload, 1) := by decide +kernel
theorem dX6_copy_125 : decode cX6_copy 125 = .ok (.iload_n 2, 1) := by decide +kernel
theorem dX6_copy_126 : decode cX6_copy 126 = .ok (.isub, 1) := by decide +kernel
theorem dX6_copy_127 : decode cX6_copy 127 = .ok (.if_icmp .gt 17, 3) := by decide +kernel
theorem dX6_copy_130 : decode cX6_copy 130 = .ok (.iload 5, 2) := by decide +kernel
theorem dX6_copy_132 : decode cX6_copy 132 = .ok (.aload_n 0, 1) := by decide +kernel
theorem dX6_copy_133 : decode cX6_copy 133 = .ok (.getfield 13, 3) := by decide +kernel
theorem dX6_copy_136 : decode cX6_copy 136 = .ok (.iload_n 3, 1) := by decide +kernel
theorem dX6_copy_137 : decode cX6_copy 137 = .ok (.iaload, 1) := by decide +kernel
theorem dX6_copy_138 : decode cX6_copy 138 = .ok (.iload 4, 2) := by decide +kernel
theorem dX6_copy_140 : decode cX6_copy 140 = .ok (.isub, 1) := by decide +kernel
theorem dX6_copy_141 : decode cX6_copy 141 = .ok (.if_icmp .le 9, 3) := by decide +kernel
theorem dX6_copy_144 : decode cX6_copy 144 = .ok (.aload_n 0, 1) := by decide +kernel
theorem dX6_copy_145 : decode cX6_copy 145 = .ok (.iconst 3, 1) := by decide +kernel
theorem dX6_copy_146 : decode cX6_copy 146 = .ok (.invokevirtual 104, 3) := by decide +kernel
theorem dX6_copy_149 : decode cX6_copy 149 = .ok (.ireturn, 1) := by decide +kernel
theorem dX6_copy_150 : decode cX6_copy 150 = .ok (.iload_n 2, 1) := by decide +kernel
theorem dX6_copy_151 : decode cX6_copy 151 = .ok (.iload 4, 2) := by decide +kernel
theorem dX6_copy_153 : decode cX6_copy 153 = .ok (.if_icmp .ge 7, 3) := by decide +kernel
theorem dX6_copy_156 : decode cX6_copy 156 = .ok (.iconst 1, 1) := by decide +kernel
theorem dX6_copy_157 : decode cX6_copy 157 = .ok (.goto 4, 3) := by decide +kernel
theorem dX6_copy_160 : decode cX6_copy 160 = .ok (.iconst 0, 1) := by decide +kernel
theorem dX6_copy_161 : decode cX6_copy 161 = .ok (.istore 7, 2) := by decide +kernel
theorem dX6_copy_163 : decode cX6_copy 163 = .ok (.iconst 0, 1) := by decide +kernel
theorem dX6_copy_164 : decode cX6_copy 164 = .ok (.istore 8, 2) := by decide +kernel
theorem dX6_copy_166 : decode cX6_copy 166 = .ok (.iload 8, 2) := by decide +kernel
theorem dX6_copy_168 : decode cX6_copy 168 = .ok (.iload 5, 2) := by decide +kernel
theorem dX6_copy_170 : decode cX6_copy 170 = .ok (.if_icmp .ge 57, 3) := by decide +kernel
theorem dX6_copy_173 : decode cX6_copy 173 = .ok (.iload 7, 2) := by decide +kernel
theorem dX6_copy_175 : decode cX6_copy 175 = .ok (.ifCond .eq 13, 3) := by decide +kernel
theorem dX6_copy_178 : decode cX6_copy 178 = .ok (.iload 5, 2) := by decide +kernel
theorem dX6_copy_180 : decode cX6_copy 180 = .ok (.iconst 1, 1) := by decide +kernel
theorem dX6_copy_181 : decode cX6_copy 181 = .ok (.isub, 1) := by decide +kernel
theorem dX6_copy_182 : decode cX6_copy 182 = .ok (.iload 8, 2) := by decide +kernel
theorem dX6_copy_184 : decode cX6_copy 184 = .ok (.isub, 1) := by decide +kernel
theorem dX6_copy_185 : decode cX6_copy 185 = .ok (.goto 5, 3) := by decide +kernel
theorem dX6_copy_188 : decode cX6_copy 188 = .ok (.iload 8, 2) := by decide +kernel
theorem dX6_copy_190 : decode cX6_copy 190 = .ok (.istore 9, 2) := by decide +kernel
theorem dX6_copy_192 : decode cX6_copy 192 = .ok (.aload_n 0, 1) := by decide +kernel
theorem dX6_copy_193 : decode cX6_copy 193 = .ok (.getfield 16, 3) := by decide +kernel
theorem dX6_copy_196 : decode cX6_copy 196 = .ok (.bipush 60, 2) := by decide +kernel
theorem dX6_copy_198 : decode cX6_copy 198 = .ok (.iload_n 3, 1) := by decide +kernel
theorem dX6_copy_199 : decode cX6_copy 199 = .ok (.imul, 1) := by decide +kernel
theorem dX6_copy_200 : decode cX6_copy 200 = .ok (.iload 4, 2) := by decide +kernel
theorem dX6_copy_202 : decode cX6_copy 202 = .ok (.iadd, 1) := by decide +kernel
theorem dX6_copy_203 : decode cX6_copy 203 = .ok (.iload 9, 2) := by decide +kernel
theorem dX6_copy_205 : decode cX6_copy 205 = .ok (.iadd, 1) := by decide +kernel
theorem dX6_copy_206 : decode cX6_copy 206 = .ok (.aload_n 0, 1) := by decide +kernel
theorem dX6_copy_207 : decode cX6_copy 207 = .ok (.getfield 16, 3) := by decide +kernel
theorem dX6_copy_210 : decode cX6_copy 210 = .ok (.bipush 60, 2) := by decide +kernel
theorem dX6_copy_212 : decode cX6_copy 212 = .ok (.iload_n 1, 1) := by decide +kernel
theorem dX6_copy_213 : decode cX6_copy 213 = .ok (.imul, 1) := by decide +kernel
theorem dX6_copy_214 : decode cX6_copy 214 = .ok (.iload_n 2, 1) := by decide +kernel
theorem dX6_copy_215 : decode cX6_copy 215 = .ok (.iadd, 1) := by decide +kernel
theorem dX6_copy_216 : decode cX6_copy 216 = .ok (.iload 9, 2) := by decide +kernel
theorem dX6_copy_218 : decode cX6_copy 218 = .ok (.iadd, 1) := by decide +kernel
theorem dX6_copy_219 : decode cX6_copy 219 = .ok (.iaload, 1) := by decide +kernel
theorem dX6_copy_220 : decode cX6_copy 220 = .ok (.iastore, 1) := by decide +kernel
theorem dX6_copy_221 : decode cX6_copy 221 = .ok (.iinc 8 1, 3) := by decide +kernel
theorem dX6_copy_224 : decode cX6_copy 224 = .ok (.goto (-58), 3) := by decide +kernel
theorem dX6_copy_227 : decode cX6_copy 227 = .ok (.iload 5, 2) := by decide +kernel
theorem dX6_copy_229 : decode cX6_copy 229 = .ok (.ireturn, 1) := by decide +kernel
theorem dX6_begins_0 : decode cX6_begins 0 = .ok (.aload_n 0, 1) := by decide +kernel
theorem dX6_begins_1 : decode cX6_begins 1 = .ok (.bipush 31, 2) := by decide +kernel
theorem dX6_begins_3 : decode cX6_begins 3 = .ok (.aload_n 0, 1) := by decide +kernel
theorem dX6_begins_4 : decode cX6_begins 4 = .ok (.getfield 212, 3) := by decide +kernel
theorem dX6_begins_7 : decode cX6_begins 7 = .ok (.imul, 1) := by decide +kernel
theorem dX6_begins_8 : decode cX6_begins 8 = .ok (.iload_n 1, 1) := by decide +kernel
theorem dX6_begins_9 : decode cX6_begins 9 = .ok (.iadd, 1) := by decide +kernel
theorem dX6_begins_10 : decode cX6_begins 10 = .ok (.putfield 212, 3) := by decide +kernel
theorem dX6_begins_13 : decode cX6_begins 13 = .ok (.return_, 1) := by decide +kernel
theorem dX6_tell_0 : decode cX6_tell 0 = .ok (.aload_n 0, 1) := by decide +kernel
theorem dX6_tell_1 : decode cX6_tell 1 = .ok (.iload_n 1, 1) := by decide +kernel
theorem dX6_tell_2 : decode cX6_tell 2 = .ok (.invokevirtual 83, 3) := by decide +kernel
theorem dX6_tell_5 : decode cX6_tell 5 = .ok (.ifCond .ne 5, 3) := by decide +kernel
theorem dX6_tell_8 : decode cX6_tell 8 = .ok (.iconst (-1), 1) := by decide +kernel
theorem dX6_tell_9 : decode cX6_tell 9 = .ok (.ireturn, 1) := by decide +kernel
theorem dX6_tell_10 : decode cX6_tell 10 = .ok (.aload_n 0, 1) := by decide +kernel
theorem dX6_tell_11 : decode cX6_tell 11 = .ok (.getfield 25, 3) := by decide +kernel
theorem dX6_tell_14 : decode cX6_tell 14 = .ok (.iload_n 1, 1) := by decide +kernel
theorem dX6_tell_15 : decode cX6_tell 15 = .ok (.iaload, 1) := by decide +kernel
theorem dX6_tell_16 : decode cX6_tell 16 = .ok (.istore_n 2, 1) := by decide +kernel
theorem dX6_tell_17 : decode cX6_tell 17 = .ok (.aload_n 0, 1) := by decide +kernel
theorem dX6_tell_18 : decode cX6_tell 18 = .ok (.getfield 22, 3) := by decide +kernel
theorem dX6_tell_21 : decode cX6_tell 21 = .ok (.iload_n 1, 1) := by decide +kernel
theorem dX6_tell_22 : decode cX6_tell 22 = .ok (.iaload, 1) := by decide +kernel
theorem dX6_tell_23 : decode cX6_tell 23 = .ok (.lookupswitch 67 #[(1, 25), (2, 40)], 25) := by decide +kernel
theorem dX6_tell_48 : decode cX6_tell 48 = .ok (.aload_n 0, 1) := by decide +kernel
theorem dX6_tell_49 : decode cX6_tell 49 = .ok (.iconst 2, 1) := by decide +kernel
theorem dX6_tell_50 : decode cX6_tell 50 = .ok (.invokevirtual 215, 3) := by decide +kernel
theorem dX6_tell_53 : decode cX6_tell 53 = .ok (.aload_n 0, 1) := by decide +kernel
theorem dX6_tell_54 : decode cX6_tell 54 = .ok (.iconst 1, 1) := by decide +kernel
theorem dX6_tell_55 : decode cX6_tell 55 = .ok (.invokevirtual 215, 3) := by decide +kernel
theorem dX6_tell_58 : decode cX6_tell 58 = .ok (.iload_n 2, 1) := by decide +kernel
theorem dX6_tell_59 : decode cX6_tell 59 = .ok (.bipush 100, 2) := by decide +kernel
theorem dX6_tell_61 : decode cX6_tell 61 = .ok (.iadd, 1) := by decide +kernel
theorem dX6_tell_62 : decode cX6_tell 62 = .ok (.ireturn, 1) := by decide +kernel
theorem dX6_tell_63 : decode cX6_tell 63 = .ok (.aload_n 0, 1) := by decide +kernel
theorem dX6_tell_64 : decode cX6_tell 64 = .ok (.iconst 3, 1) := by decide +kernel
theorem dX6_tell_65 : decode cX6_tell 65 = .ok (.invokevirtual 215, 3) := by decide +kernel
theorem dX6_tell_68 : decode cX6_tell 68 = .ok (.aload_n 0, 1) := by decide +kernel
theorem dX6_tell_69 : decode cX6_tell 69 = .ok (.iconst 2, 1) := by decide +kernel
theorem dX6_tell_70 : decode cX6_tell 70 = .ok (.invokevirtual 215, 3) := by decide +kernel
theorem dX6_tell_73 : decode cX6_tell 73 = .ok (.aload_n 0, 1) := by decide +kernel
theorem dX6_tell_74 : decode cX6_tell 74 = .ok (.iconst 1, 1) := by decide +kernel
theorem dX6_tell_75 : decode cX6_tell 75 = .ok (.invokevirtual 215, 3) := by decide +kernel
theorem dX6_tell_78 : decode cX6_tell 78 = .ok (.aload_n 0, 1) := by decide +kernel
theorem dX6_tell_79 : decode cX6_tell 79 = .ok (.iconst 1, 1) := by decide +kernel
theorem dX6_tell_80 : decode cX6_tell 80 = .ok (.invokevirtual 215, 3) := by decide +kernel
theorem dX6_tell_83 : decode cX6_tell 83 = .ok (.iconst 2, 1) := by decide +kernel
theorem dX6_tell_84 : decode cX6_tell 84 = .ok (.iload_n 2, 1) := by decide +kernel
theorem dX6_tell_85 : decode cX6_tell 85 = .ok (.imul, 1) := by decide +kernel
theorem dX6_tell_86 : decode cX6_tell 86 = .ok (.bipush 100, 2) := by decide +kernel
theorem dX6_tell_88 : decode cX6_tell 88 = .ok (.iadd, 1) := by decide +kernel
theorem dX6_tell_89 : decode cX6_tell 89 = .ok (.ireturn, 1) := by decide +kernel
theorem dX6_tell_90 : decode cX6_tell 90 = .ok (.aload_n 0, 1) := by decide +kernel
theorem dX6_tell_91 : decode cX6_tell 91 = .ok (.iconst 1, 1) := by decide +kernel
theorem dX6_tell_92 : decode cX6_tell 92 = .ok (.invokevirtual 215, 3) := by decide +kernel
theorem dX6_tell_95 : decode cX6_tell 95 = .ok (.iload_n 2, 1) := by decide +kernel
theorem dX6_tell_96 : decode cX6_tell 96 = .ok (.ireturn, 1) := by decide +kernel
theorem dX6_knock_0 : decode cX6_knock 0 = .ok (.aload_n 0, 1) := by decide +kernel
theorem dX6_knock_1 : decode cX6_knock 1 = .ok (.iload_n 1, 1) := by decide +kernel
theorem dX6_knock_2 : decode cX6_knock 2 = .ok (.invokevirtual 83, 3) := by decide +kernel
theorem dX6_knock_5 : decode cX6_knock 5 = .ok (.ifCond .ne 5, 3) := by decide +kernel
theorem dX6_knock_8 : decode cX6_knock 8 = .ok (.iconst (-1), 1) := by decide +kernel
theorem dX6_knock_9 : decode cX6_knock 9 = .ok (.ireturn, 1) := by decide +kernel
theorem dX6_knock_10 : decode cX6_knock 10 = .ok (.aload_n 0, 1) := by decide +kernel
theorem dX6_knock_11 : decode cX6_knock 11 = .ok (.aload_n 0, 1) := by decide +kernel
theorem dX6_knock_12 : decode cX6_knock 12 = .ok (.getfield 22, 3) := by decide +kernel
theorem dX6_knock_15 : decode cX6_knock 15 = .ok (.iload_n 1, 1) := by decide +kernel
theorem dX6_knock_16 : decode cX6_knock 16 = .ok (.iaload, 1) := by decide +kernel
theorem dX6_knock_17 : decode cX6_knock 17 = .ok (.iconst 2, 1) := by decide +kernel
theorem dX6_knock_18 : decode cX6_knock 18 = .ok (.if_icmp .ne 7, 3) := by decide +kernel
theorem dX6_knock_21 : decode cX6_knock 21 = .ok (.iconst 5, 1) := by decide +kernel
theorem dX6_knock_22 : decode cX6_knock 22 = .ok (.goto 4, 3) := by decide +kernel
theorem dX6_knock_25 : decode cX6_knock 25 = .ok (.iconst 4, 1) := by decide +kernel
theorem dX6_knock_26 : decode cX6_knock 26 = .ok (.invokevirtual 215, 3) := by decide +kernel
theorem dX6_knock_29 : decode cX6_knock 29 = .ok (.aload_n 0, 1) := by decide +kernel
theorem dX6_knock_30 : decode cX6_knock 30 = .ok (.getfield 22, 3) := by decide +kernel
theorem dX6_knock_33 : decode cX6_knock 33 = .ok (.iload_n 1, 1) := by decide +kernel
theorem dX6_knock_34 : decode cX6_knock 34 = .ok (.iaload, 1) := by decide +kernel
theorem dX6_knock_35 : decode cX6_knock 35 = .ok (.iconst 2, 1) := by decide +kernel
theorem dX6_knock_36 : decode cX6_knock 36 = .ok (.if_icmp .ne 8, 3) := by decide +kernel
theorem dX6_knock_39 : decode cX6_knock 39 = .ok (.bipush 80, 2) := by decide +kernel
theorem dX6_knock_41 : decode cX6_knock 41 = .ok (.goto 12, 3) := by decide +kernel
theorem dX6_knock_44 : decode cX6_knock 44 = .ok (.aload_n 0, 1) := by decide +kernel
theorem dX6_knock_45 : decode cX6_knock 45 = .ok (.getfield 19, 3) := by decide +kernel
theorem dX6_knock_48 : decode cX6_knock 48 = .ok (.iload_n 1, 1) := by decide +kernel
theorem dX6_knock_49 : decode cX6_knock 49 = .ok (.iaload, 1) := by decide +kernel
theorem dX6_knock_50 : decode cX6_knock 50 = .ok (.invokestatic 140, 3) := by decide +kernel
theorem dX6_knock_53 : decode cX6_knock 53 = .ok (.ireturn, 1) := by decide +kernel
theorem dX6_as_0 : decode cX6_as 0 = .ok (.aload_n 0, 1) := by decide +kernel
theorem dX6_as_1 : decode cX6_as 1 = .ok (.iconst 0, 1) := by decide +kernel
theorem dX6_as_2 : decode cX6_as 2 = .ok (.putfield 70, 3) := by decide +kernel
theorem dX6_as_5 : decode cX6_as 5 = .ok (.aload_n 0, 1) := by decide +kernel
theorem dX6_as_6 : decode cX6_as 6 = .ok (.iload_n 1, 1) := by decide +kernel
theorem dX6_as_7 : decode cX6_as 7 = .ok (.invokevirtual 83, 3) := by decide +kernel
theorem dX6_as_10 : decode cX6_as 10 = .ok (.ifCond .ne 5, 3) := by decide +kernel
theorem dX6_as_13 : decode cX6_as 13 = .ok (.iconst (-1), 1) := by decide +kernel
theorem dX6_as_14 : decode cX6_as 14 = .ok (.ireturn, 1) := by decide +kernel
theorem dX6_as_15 : decode cX6_as 15 = .ok (.iload_n 2, 1) := by decide +kernel
theorem dX6_as_16 : decode cX6_as 16 = .ok (.iconst 0, 1) := by decide +kernel
theorem dX6_as_17 : decode cX6_as 17 = .ok (.iconst 2, 1) := by decide +kernel
theorem dX6_as_18 : decode cX6_as 18 = .ok (.invokestatic 76, 3) := by decide +kernel
theorem dX6_as_21 : decode cX6_as 21 = .ok (.ifCond .ne 6, 3) := by decide +kernel
theorem dX6_as_24 : decode cX6_as 24 = .ok (.bipush (-2), 2) := by decide +kernel
theorem dX6_as_26 : decode cX6_as 26 = .ok (.ireturn, 1) := by decide +kernel
theorem dX6_as_27 : decode cX6_as 27 = .ok (.aload_n 0, 1) := by decide +kernel
theorem dX6_as_28 : decode cX6_as 28 = .ok (.getfield 22, 3) := by decide +kernel
theorem dX6_as_31 : decode cX6_as 31 = .ok (.iload_n 1, 1) := by decide +kernel
theorem dX6_as_32 : decode cX6_as 32 = .ok (.iaload, 1) := by decide +kernel
theorem dX6_as_33 : decode cX6_as 33 = .ok (.iload_n 2, 1) := by decide +kernel
theorem dX6_as_34 : decode cX6_as 34 = .ok (.if_icmp .lt 7, 3) := by decide +kernel
theorem dX6_as_37 : decode cX6_as 37 = .ok (.iconst 1, 1) := by decide +kernel
theorem dX6_as_38 : decode cX6_as 38 = .ok (.goto 8, 3) := by decide +kernel
theorem dX6_as_41 : decode cX6_as 41 = .ok (.aload_n 0, 1) := by decide +kernel
theorem dX6_as_42 : decode cX6_as 42 = .ok (.iconst 2, 1) := by decide +kernel
theorem dX6_as_43 : decode cX6_as 43 = .ok (.invokevirtual 104, 3) := by decide +kernel
theorem dX6_as_46 : decode cX6_as 46 = .ok (.ireturn, 1) := by decide +kernel
theorem dX6_trace_0 : decode cX6_trace 0 = .ok (.aload_n 0, 1) := by decide +kernel
theorem dX6_trace_1 : decode cX6_trace 1 = .ok (.getfield 212, 3) := by decide +kernel
theorem dX6_trace_4 : decode cX6_trace 4 = .ok (.ireturn, 1) := by decide +kernel
theorem dX6_fault_0 : decode cX6_fault 0 = .ok (.aload_n 0, 1) := by decide +kernel
theorem dX6_fault_1 : decode cX6_fault 1 = .ok (.getfield 70, 3) := by decide +kernel
theorem dX6_fault_4 : decode cX6_fault 4 = .ok (.ireturn, 1) := by decide +kernel
theorem dX6_many_0 : decode cX6_many 0 = .ok (.iload_n 1, 1) := by decide +kernel
theorem dX6_many_1 : decode cX6_many 1 = .ok (.tableswitch 54 0 3 #[31, 36, 41, 49], 31) := by decide +kernel
theorem dX6_many_32 : decode cX6_many 32 = .ok (.aload_n 0, 1) := by decide +kernel
theorem dX6_many_33 : decode cX6_many 33 = .ok (.getfield 80, 3) := by decide +kernel
theorem dX6_many_36 : decode cX6_many 36 = .ok (.ireturn, 1) := by decide +kernel
theorem dX6_many_37 : decode cX6_many 37 = .ok (.aload_n 0, 1) := by decide +kernel
theorem dX6_many_38 : decode cX6_many 38 = .ok (.getfield 117, 3) := by decide +kernel
theorem dX6_many_41 : decode cX6_many 41 = .ok (.ireturn, 1) := by decide +kernel
theorem dX6_many_42 : decode cX6_many 42 = .ok (.aload_n 0, 1) := by decide +kernel
theorem dX6_many_43 : decode cX6_many 43 = .ok (.invokevirtual 178, 3) := by decide +kernel
theorem dX6_many_46 : decode cX6_many 46 = .ok (.invokestatic 140, 3) := by decide +kernel
theorem dX6_many_49 : decode cX6_many 49 = .ok (.ireturn, 1) := by decide +kernel
theorem dX6_many_50 : decode cX6_many 50 = .ok (.aload_n 0, 1) := by decide +kernel
theorem dX6_many_51 : decode cX6_many 51 = .ok (.getfield 120, 3) := by decide +kernel
theorem dX6_many_54 : decode cX6_many 54 = .ok (.ireturn, 1) := by decide +kernel
theorem dX6_many_55 : decode cX6_many 55 = .ok (.bipush (-2), 2) := by decide +kernel
theorem dX6_many_57 : decode cX6_many 57 = .ok (.ireturn, 1) := by decide +kernel
