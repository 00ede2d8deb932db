theorem dX10_stage_10 : decode cX10_stage 10 = .ok (.iload_n 1, 1) := by decide +kernel
theorem dX10_stage_11 : decode cX10_stage 11 = .ok (.iload_n 2, 1) := by decide +kernel
theorem dX10_stage_12 : decode cX10_stage 12 = .ok (.iload_n 3, 1) := by decide +kernel
theorem dX10_stage_13 : decode cX10_stage 13 = .ok (.invokestatic 126, 3) := by decide +kernel
theorem dX10_stage_16 : decode cX10_stage 16 = .ok (.ifCond .ne 5, 3) := by decide +kernel
theorem dX10_stage_19 : decode cX10_stage 19 = .ok (.iconst (-1), 1) := by decide +kernel
theorem dX10_stage_20 : decode cX10_stage 20 = .ok (.ireturn, 1) := by decide +kernel
theorem dX10_stage_21 : decode cX10_stage 21 = .ok (.aload_n 0, 1) := by decide +kernel
theorem dX10_stage_22 : decode cX10_stage 22 = .ok (.getfield 122, 3) := by decide +kernel
theorem dX10_stage_25 : decode cX10_stage 25 = .ok (.bipush 16, 2) := by decide +kernel
theorem dX10_stage_27 : decode cX10_stage 27 = .ok (.if_icmp .ne 6, 3) := by decide +kernel
theorem dX10_stage_30 : decode cX10_stage 30 = .ok (.bipush (-6), 2) := by decide +kernel
theorem dX10_stage_32 : decode cX10_stage 32 = .ok (.ireturn, 1) := by decide +kernel
theorem dX10_stage_33 : decode cX10_stage 33 = .ok (.aload_n 0, 1) := by decide +kernel
theorem dX10_stage_34 : decode cX10_stage 34 = .ok (.getfield 17, 3) := by decide +kernel
theorem dX10_stage_37 : decode cX10_stage 37 = .ok (.aload_n 0, 1) := by decide +kernel
theorem dX10_stage_38 : decode cX10_stage 38 = .ok (.getfield 122, 3) := by decide +kernel
theorem dX10_stage_41 : decode cX10_stage 41 = .ok (.iload_n 1, 1) := by decide +kernel
theorem dX10_stage_42 : decode cX10_stage 42 = .ok (.iastore, 1) := by decide +kernel
theorem dX10_stage_43 : decode cX10_stage 43 = .ok (.aload_n 0, 1) := by decide +kernel
theorem dX10_stage_44 : decode cX10_stage 44 = .ok (.getfield 20, 3) := by decide +kernel
theorem dX10_stage_47 : decode cX10_stage 47 = .ok (.aload_n 0, 1) := by decide +kernel
theorem dX10_stage_48 : decode cX10_stage 48 = .ok (.getfield 122, 3) := by decide +kernel
theorem dX10_stage_51 : decode cX10_stage 51 = .ok (.iload_n 2, 1) := by decide +kernel
theorem dX10_stage_52 : decode cX10_stage 52 = .ok (.iastore, 1) := by decide +kernel
theorem dX10_stage_53 : decode cX10_stage 53 = .ok (.aload_n 0, 1) := by decide +kernel
theorem dX10_stage_54 : decode cX10_stage 54 = .ok (.getfield 23, 3) := by decide +kernel
theorem dX10_stage_57 : decode cX10_stage 57 = .ok (.aload_n 0, 1) := by decide +kernel
theorem dX10_stage_58 : decode cX10_stage 58 = .ok (.getfield 122, 3) := by decide +kernel
theorem dX10_stage_61 : decode cX10_stage 61 = .ok (.iload_n 3, 1) := by decide +kernel
theorem dX10_stage_62 : decode cX10_stage 62 = .ok (.iastore, 1) := by decide +kernel
theorem dX10_stage_63 : decode cX10_stage 63 = .ok (.aload_n 0, 1) := by decide +kernel
theorem dX10_stage_64 : decode cX10_stage 64 = .ok (.getfield 29, 3) := by decide +kernel
theorem dX10_stage_67 : decode cX10_stage 67 = .ok (.aload_n 0, 1) := by decide +kernel
theorem dX10_stage_68 : decode cX10_stage 68 = .ok (.getfield 122, 3) := by decide +kernel
theorem dX10_stage_71 : decode cX10_stage 71 = .ok (.iconst 1, 1) := by decide +kernel
theorem dX10_stage_72 : decode cX10_stage 72 = .ok (.bastore, 1) := by decide +kernel
theorem dX10_stage_73 : decode cX10_stage 73 = .ok (.aload_n 0, 1) := by decide +kernel
theorem dX10_stage_74 : decode cX10_stage 74 = .ok (.dup, 1) := by decide +kernel
theorem dX10_stage_75 : decode cX10_stage 75 = .ok (.getfield 122, 3) := by decide +kernel
theorem dX10_stage_78 : decode cX10_stage 78 = .ok (.iconst 1, 1) := by decide +kernel
theorem dX10_stage_79 : decode cX10_stage 79 = .ok (.iadd, 1) := by decide +kernel
theorem dX10_stage_80 : decode cX10_stage 80 = .ok (.putfield 122, 3) := by decide +kernel
theorem dX10_stage_83 : decode cX10_stage 83 = .ok (.aload_n 0, 1) := by decide +kernel
theorem dX10_stage_84 : decode cX10_stage 84 = .ok (.getfield 122, 3) := by decide +kernel
theorem dX10_stage_87 : decode cX10_stage 87 = .ok (.iconst 1, 1) := by decide +kernel
theorem dX10_stage_88 : decode cX10_stage 88 = .ok (.isub, 1) := by decide +kernel
theorem dX10_stage_89 : decode cX10_stage 89 = .ok (.ireturn, 1) := by decide +kernel
theorem dX10_hasTooManyWays_0 : decode cX10_hasTooManyWays 0 = .ok (.iconst 0, 1) := by decide +kernel
theorem dX10_hasTooManyWays_1 : decode cX10_hasTooManyWays 1 = .ok (.istore_n 1, 1) := by decide +kernel
theorem dX10_hasTooManyWays_2 : decode cX10_hasTooManyWays 2 = .ok (.iconst 0, 1) := by decide +kernel
theorem dX10_hasTooManyWays_3 : decode cX10_hasTooManyWays 3 = .ok (.istore_n 2, 1) := by decide +kernel
theorem dX10_hasTooManyWays_4 : decode cX10_hasTooManyWays 4 = .ok (.iload_n 2, 1) := by decide +kernel
theorem dX10_hasTooManyWays_5 : decode cX10_hasTooManyWays 5 = .ok (.bipush 8, 2) := by decide +kernel
theorem dX10_hasTooManyWays_7 : decode cX10_hasTooManyWays 7 = .ok (.if_icmp .ge 185, 3) := by decide +kernel
theorem dX10_hasTooManyWays_10 : decode cX10_hasTooManyWays 10 = .ok (.iconst 0, 1) := by decide +kernel
theorem dX10_hasTooManyWays_11 : decode cX10_hasTooManyWays 11 = .ok (.istore_n 3, 1) := by decide +kernel
theorem dX10_hasTooManyWays_12 : decode cX10_hasTooManyWays 12 = .ok (.iconst 0, 1) := by decide +kernel
theorem dX10_hasTooManyWays_13 : decode cX10_hasTooManyWays 13 = .ok (.istore 4, 2) := by decide +kernel
theorem dX10_hasTooManyWays_15 : decode cX10_hasTooManyWays 15 = .ok (.iconst 0, 1) := by decide +kernel
theorem dX10_hasTooManyWays_16 : decode cX10_hasTooManyWays 16 = .ok (.istore 5, 2) := by decide +kernel
theorem dX10_hasTooManyWays_18 : decode cX10_hasTooManyWays 18 = .ok (.iload 5, 2) := by decide +kernel
theorem dX10_hasTooManyWays_20 : decode cX10_hasTooManyWays 20 = .ok (.aload_n 0, 1) := by decide +kernel
theorem dX10_hasTooManyWays_21 : decode cX10_hasTooManyWays 21 = .ok (.getfield 122, 3) := by decide +kernel
theorem dX10_hasTooManyWays_24 : decode cX10_hasTooManyWays 24 = .ok (.if_icmp .ge 140, 3) := by decide +kernel
theorem dX10_hasTooManyWays_27 : decode cX10_hasTooManyWays 27 = .ok (.aload_n 0, 1) := by decide +kernel
theorem dX10_hasTooManyWays_28 : decode cX10_hasTooManyWays 28 = .ok (.getfield 32, 3) := by decide +kernel
theorem dX10_hasTooManyWays_31 : decode cX10_hasTooManyWays 31 = .ok (.bipush 24, 2) := by decide +kernel
theorem dX10_hasTooManyWays_33 : decode cX10_hasTooManyWays 33 = .ok (.iload 5, 2) := by decide +kernel
theorem dX10_hasTooManyWays_35 : decode cX10_hasTooManyWays 35 = .ok (.imul, 1) := by decide +kernel
theorem dX10_hasTooManyWays_36 : decode cX10_hasTooManyWays 36 = .ok (.iload_n 2, 1) := by decide +kernel
theorem dX10_hasTooManyWays_37 : decode cX10_hasTooManyWays 37 = .ok (.iadd, 1) := by decide +kernel
theorem dX10_hasTooManyWays_38 : decode cX10_hasTooManyWays 38 = .ok (.baload, 1) := by decide +kernel
theorem dX10_hasTooManyWays_39 : decode cX10_hasTooManyWays 39 = .ok (.ifCond .eq 7, 3) := by decide +kernel
theorem dX10_hasTooManyWays_42 : decode cX10_hasTooManyWays 42 = .ok (.iconst 1, 1) := by decide +kernel
theorem dX10_hasTooManyWays_43 : decode cX10_hasTooManyWays 43 = .ok (.goto 4, 3) := by decide +kernel
theorem dX10_hasTooManyWays_46 : decode cX10_hasTooManyWays 46 = .ok (.iconst 0, 1) := by decide +kernel
theorem dX10_hasTooManyWays_47 : decode cX10_hasTooManyWays 47 = .ok (.istore 6, 2) := by decide +kernel
theorem dX10_hasTooManyWays_49 : decode cX10_hasTooManyWays 49 = .ok (.iconst 0, 1) := by decide +kernel
theorem dX10_hasTooManyWays_50 : decode cX10_hasTooManyWays 50 = .ok (.istore 7, 2) := by decide +kernel
theorem dX10_hasTooManyWays_52 : decode cX10_hasTooManyWays 52 = .ok (.iload 7, 2) := by decide +kernel
theorem dX10_hasTooManyWays_54 : decode cX10_hasTooManyWays 54 = .ok (.iload 5, 2) := by decide +kernel
theorem dX10_hasTooManyWays_56 : decode cX10_hasTooManyWays 56 = .ok (.if_icmp .ge 44, 3) := by decide +kernel
theorem dX10_hasTooManyWays_59 : decode cX10_hasTooManyWays 59 = .ok (.iload 6, 2) := by decide +kernel
theorem dX10_hasTooManyWays_61 : decode cX10_hasTooManyWays 61 = .ok (.aload_n 0, 1) := by decide +kernel
theorem dX10_hasTooManyWays_62 : decode cX10_hasTooManyWays 62 = .ok (.getfield 32, 3) := by decide +kernel
theorem dX10_hasTooManyWays_65 : decode cX10_hasTooManyWays 65 = .ok (.bipush 24, 2) := by decide +kernel
theorem dX10_hasTooManyWays_67 : decode cX10_hasTooManyWays 67 = .ok (.iload 5, 2) := by decide +kernel
theorem dX10_hasTooManyWays_69 : decode cX10_hasTooManyWays 69 = .ok (.imul, 1) := by decide +kernel
theorem dX10_hasTooManyWays_70 : decode cX10_hasTooManyWays 70 = .ok (.bipush 8, 2) := by decide +kernel
theorem dX10_hasTooManyWays_72 : decode cX10_hasTooManyWays 72 = .ok (.iadd, 1) := by decide +kernel
theorem dX10_hasTooManyWays_73 : decode cX10_hasTooManyWays 73 = .ok (.iload 7, 2) := by decide +kernel
theorem dX10_hasTooManyWays_75 : decode cX10_hasTooManyWays 75 = .ok (.iadd, 1) := by decide +kernel
theorem dX10_hasTooManyWays_76 : decode cX10_hasTooManyWays 76 = .ok (.baload, 1) := by decide +kernel
theorem dX10_hasTooManyWays_77 : decode cX10_hasTooManyWays 77 = .ok (.ifCond .eq 13, 3) := by decide +kernel
theorem dX10_hasTooManyWays_80 : decode cX10_hasTooManyWays 80 = .ok (.aload_n 0, 1) := by decide +kernel
theorem dX10_hasTooManyWays_81 : decode cX10_hasTooManyWays 81 = .ok (.getfield 119, 3) := by decide +kernel
theorem dX10_hasTooManyWays_84 : decode cX10_hasTooManyWays 84 = .ok (.iload 7, 2) := by decide +kernel
theorem dX10_hasTooManyWays_86 : decode cX10_hasTooManyWays 86 = .ok (.iaload, 1) := by decide +kernel
theorem dX10_hasTooManyWays_87 : decode cX10_hasTooManyWays 87 = .ok (.goto 4, 3) := by decide +kernel
theorem dX10_hasTooManyWays_90 : decode cX10_hasTooManyWays 90 = .ok (.iconst 0, 1) := by decide +kernel
theorem dX10_hasTooManyWays_91 : decode cX10_hasTooManyWays 91 = .ok (.iadd, 1) := by decide +kernel
theorem dX10_hasTooManyWays_92 : decode cX10_hasTooManyWays 92 = .ok (.istore 6, 2) := by decide +kernel
theorem dX10_hasTooManyWays_94 : decode cX10_hasTooManyWays 94 = .ok (.iinc 7 1, 3) := by decide +kernel
theorem dX10_hasTooManyWays_97 : decode cX10_hasTooManyWays 97 = .ok (.goto (-45), 3) := by decide +kernel
theorem dX10_hasTooManyWays_100 : decode cX10_hasTooManyWays 100 = .ok (.aload_n 0, 1) := by decide +kernel
theorem dX10_hasTooManyWays_101 : decode cX10_hasTooManyWays 101 = .ok (.getfield 119, 3) := by decide +kernel
theorem dX10_hasTooManyWays_104 : decode cX10_hasTooManyWays 104 = .ok (.iload 5, 2) := by decide +kernel
theorem dX10_hasTooManyWays_106 : decode cX10_hasTooManyWays 106 = .ok (.iload 6, 2) := by decide +kernel
theorem dX10_hasTooManyWays_108 : decode cX10_hasTooManyWays 108 = .ok (.sipush 1000, 3) := by decide +kernel
theorem dX10_hasTooManyWays_111 : decode cX10_hasTooManyWays 111 = .ok (.if_icmp .le 9, 3) := by decide +kernel
theorem dX10_hasTooManyWays_114 : decode cX10_hasTooManyWays 114 = .ok (.sipush 1000, 3) := by decide +kernel
theorem dX10_hasTooManyWays_117 : decode cX10_hasTooManyWays 117 = .ok (.goto 5, 3) := by decide +kernel
theorem dX10_hasTooManyWays_120 : decode cX10_hasTooManyWays 120 = .ok (.iload 6, 2) := by decide +kernel
theorem dX10_hasTooManyWays_122 : decode cX10_hasTooManyWays 122 = .ok (.iastore, 1) := by decide +kernel
theorem dX10_hasTooManyWays_123 : decode cX10_hasTooManyWays 123 = .ok (.iload_n 3, 1) := by decide +kernel
theorem dX10_hasTooManyWays_124 : decode cX10_hasTooManyWays 124 = .ok (.aload_n 0, 1) := by decide +kernel
theorem dX10_hasTooManyWays_125 : decode cX10_hasTooManyWays 125 = .ok (.getfield 119, 3) := by decide +kernel
theorem dX10_hasTooManyWays_128 : decode cX10_hasTooManyWays 128 = .ok (.iload 5, 2) := by decide +kernel
theorem dX10_hasTooManyWays_130 : decode cX10_hasTooManyWays 130 = .ok (.iaload, 1) := by decide +kernel
theorem dX10_hasTooManyWays_131 : decode cX10_hasTooManyWays 131 = .ok (.iadd, 1) := by decide +kernel
theorem dX10_hasTooManyWays_132 : decode cX10_hasTooManyWays 132 = .ok (.istore_n 3, 1) := by decide +kernel
theorem dX10_hasTooManyWays_133 : decode cX10_hasTooManyWays 133 = .ok (.iload 4, 2) := by decide +kernel
theorem dX10_hasTooManyWays_135 : decode cX10_hasTooManyWays 135 = .ok (.aload_n 0, 1) := by decide +kernel
theorem dX10_hasTooManyWays_136 : decode cX10_hasTooManyWays 136 = .ok (.iload 5, 2) := by decide +kernel
theorem dX10_hasTooManyWays_138 : decode cX10_hasTooManyWays 138 = .ok (.invokevirtual 130, 3) := by decide +kernel
theorem dX10_hasTooManyWays_141 : decode cX10_hasTooManyWays 141 = .ok (.ifCond .eq 13, 3) := by decide +kernel
theorem dX10_hasTooManyWays_144 : decode cX10_hasTooManyWays 144 = .ok (.aload_n 0, 1) := by decide +kernel
theorem dX10_hasTooManyWays_145 : decode cX10_hasTooManyWays 145 = .ok (.getfield 119, 3) := by decide +kernel
theorem dX10_hasTooManyWays_148 : decode cX10_hasTooManyWays 148 = .ok (.iload 5, 2) := by decide +kernel
theorem dX10_hasTooManyWays_150 : decode cX10_hasTooManyWays 150 = .ok (.iaload, 1) := by decide +kernel
theorem dX10_hasTooManyWays_151 : decode cX10_hasTooManyWays 151 = .ok (.goto 4, 3) := by decide +kernel
theorem dX10_hasTooManyWays_154 : decode cX10_hasTooManyWays 154 = .ok (.iconst 0, 1) := by decide +kernel
theorem dX10_hasTooManyWays_155 : decode cX10_hasTooManyWays 155 = .ok (.iadd, 1) := by decide +kernel
theorem dX10_hasTooManyWays_156 : decode cX10_hasTooManyWays 156 = .ok (.istore 4, 2) := by decide +kernel
theorem dX10_hasTooManyWays_158 : decode cX10_hasTooManyWays 158 = .ok (.iinc 5 1, 3) := by decide +kernel
theorem dX10_hasTooManyWays_161 : decode cX10_hasTooManyWays 161 = .ok (.goto (-143), 3) := by decide +kernel
theorem dX10_hasTooManyWays_164 : decode cX10_hasTooManyWays 164 = .ok (.iload_n 1, 1) := by decide +kernel
theorem dX10_hasTooManyWays_165 : decode cX10_hasTooManyWays 165 = .ok (.ifCond .ne 15, 3) := by decide +kernel
theorem dX10_hasTooManyWays_168 : decode cX10_hasTooManyWays 168 = .ok (.iload_n 3, 1) := by decide +kernel
theorem dX10_hasTooManyWays_169 : decode cX10_hasTooManyWays 169 = .ok (.bipush 32, 2) := by decide +kernel
theorem dX10_hasTooManyWays_171 : decode cX10_hasTooManyWays 171 = .ok (.if_icmp .gt 9, 3) := by decide +kernel
theorem dX10_hasTooManyWays_174 : decode cX10_hasTooManyWays 174 = .ok (.iload 4, 2) := by decide +kernel
theorem dX10_hasTooManyWays_176 : decode cX10_hasTooManyWays 176 = .ok (.iconst 4, 1) := by decide +kernel
theorem dX10_hasTooManyWays_177 : decode cX10_hasTooManyWays 177 = .ok (.if_icmp .le 7, 3) := by decide +kernel
theorem dX10_hasTooManyWays_180 : decode cX10_hasTooManyWays 180 = .ok (.iconst 1, 1) := by decide +kernel
theorem dX10_hasTooManyWays_181 : decode cX10_hasTooManyWays 181 = .ok (.goto 4, 3) := by decide +kernel
theorem dX10_hasTooManyWays_184 : decode cX10_hasTooManyWays 184 = .ok (.iconst 0, 1) := by decide +kernel
theorem dX10_hasTooManyWays_185 : decode cX10_hasTooManyWays 185 = .ok (.istore_n 1, 1) := by decide +kernel
theorem dX10_hasTooManyWays_186 : decode cX10_hasTooManyWays 186 = .ok (.iinc 2 1, 3) := by decide +kernel
theorem dX10_hasTooManyWays_189 : decode cX10_hasTooManyWays 189 = .ok (.goto (-185), 3) := by decide +kernel
theorem dX10_hasTooManyWays_192 : decode cX10_hasTooManyWays 192 = .ok (.iload_n 1, 1) := by decide +kernel
theorem dX10_hasTooManyWays_193 : decode cX10_hasTooManyWays 193 = .ok (.ireturn, 1) := by decide +kernel
theorem dX10_feed_0 : decode cX10_feed 0 = .ok (.aload_n 0, 1) := by decide +kernel
theorem dX10_feed_1 : decode cX10_feed 1 = .ok (.iload_n 1, 1) := by decide +kernel
theorem dX10_feed_2 : decode cX10_feed 2 = .ok (.invokevirtual 134, 3) := by decide +kernel
theorem dX10_feed_5 : decode cX10_feed 5 = .ok (.ifCond .eq 24, 3) := by decide +kernel
theorem dX10_feed_8 : decode cX10_feed 8 = .ok (.iload_n 2, 1) := by decide +kernel
theorem dX10_feed_9 : decode cX10_feed 9 = .ok (.ifCond .lt 20, 3) := by decide +kernel
theorem dX10_feed_12 : decode cX10_feed 12 = .ok (.iload_n 2, 1) := by decide +kernel
theorem dX10_feed_13 : decode cX10_feed 13 = .ok (.bipush 8, 2) := by decide +kernel
theorem dX10_feed_15 : decode cX10_feed 15 = .ok (.if_icmp .lt 16, 3) := by decide +kernel
theorem dX10_feed_18 : decode cX10_feed 18 = .ok (.aload_n 0, 1) := by decide +kernel
theorem dX10_feed_19 : decode cX10_feed 19 = .ok (.iload_n 2, 1) := by decide +kernel
theorem dX10_feed_20 : decode cX10_feed 20 = .ok (.bipush 8, 2) := by decide +kernel
theorem dX10_feed_22 : decode cX10_feed 22 = .ok (.isub, 1) := by decide +kernel
theorem dX10_feed_23 : decode cX10_feed 23 = .ok (.invokevirtual 134, 3) := by decide +kernel
theorem dX10_feed_26 : decode cX10_feed 26 = .ok (.ifCond .ne 5, 3) := by decide +kernel
theorem dX10_feed_29 : decode cX10_feed 29 = .ok (.iconst (-1), 1) := by decide +kernel
theorem dX10_feed_30 : decode cX10_feed 30 = .ok (.ireturn, 1) := by decide +kernel
theorem dX10_feed_31 : decode cX10_feed 31 = .ok (.iload_n 2, 1) := by decide +kernel
theorem dX10_feed_32 : decode cX10_feed 32 = .ok (.bipush 8, 2) := by decide +kernel
theorem dX10_feed_34 : decode cX10_feed 34 = .ok (.if_icmp .lt 22, 3) := by decide +kernel
theorem dX10_feed_37 : decode cX10_feed 37 = .ok (.iload_n 2, 1) := by decide +kernel
theorem dX10_feed_38 : decode cX10_feed 38 = .ok (.bipush 8, 2) := by decide +kernel
theorem dX10_feed_40 : decode cX10_feed 40 = .ok (.isub, 1) := by decide +kernel
theorem dX10_feed_41 : decode cX10_feed 41 = .ok (.iload_n 1, 1) := by decide +kernel
theorem dX10_feed_42 : decode cX10_feed 42 = .ok (.if_icmp .ge 28, 3) := by decide +kernel
theorem dX10_feed_45 : decode cX10_feed 45 = .ok (.aload_n 0, 1) := by decide +kernel
theorem dX10_feed_46 : decode cX10_feed 46 = .ok (.iload_n 2, 1) := by decide +kernel
theorem dX10_feed_47 : decode cX10_feed 47 = .ok (.bipush 8, 2) := by decide +kernel
theorem dX10_feed_49 : decode cX10_feed 49 = .ok (.isub, 1) := by decide +kernel
theorem dX10_feed_50 : decode cX10_feed 50 = .ok (.invokevirtual 130, 3) := by decide +kernel
theorem dX10_feed_53 : decode cX10_feed 53 = .ok (.ifCond .ne 17, 3) := by decide +kernel
theorem dX10_feed_56 : decode cX10_feed 56 = .ok (.aload_n 0, 1) := by decide +kernel
theorem dX10_feed_57 : decode cX10_feed 57 = .ok (.getfield 32, 3) := by decide +kernel
theorem dX10_feed_60 : decode cX10_feed 60 = .ok (.bipush 24, 2) := by decide +kernel
theorem dX10_feed_62 : decode cX10_feed 62 = .ok (.iload_n 1, 1) := by decide +kernel
theorem dX10_feed_63 : decode cX10_feed 63 = .ok (.imul, 1) := by decide +kernel
theorem dX10_feed_64 : decode cX10_feed 64 = .ok (.iload_n 2, 1) := by decide +kernel
theorem dX10_feed_65 : decode cX10_feed 65 = .ok (.iadd, 1) := by decide +kernel
theorem dX10_feed_66 : decode cX10_feed 66 = .ok (.baload, 1) := by decide +kernel
theorem dX10_feed_67 : decode cX10_feed 67 = .ok (.ifCond .eq 6, 3) := by decide +kernel
theorem dX10_feed_70 : decode cX10_feed 70 = .ok (.bipush (-3), 2) := by decide +kernel
theorem dX10_feed_72 : decode cX10_feed 72 = .ok (.ireturn, 1) := by decide +kernel
theorem dX10_feed_73 : decode cX10_feed 73 = .ok (.aload_n 0, 1) := by decide +kernel
theorem dX10_feed_74 : decode cX10_feed 74 = .ok (.getfield 38, 3) := by decide +kernel
theorem dX10_feed_77 : decode cX10_feed 77 = .ok (.iload_n 1, 1) := by decide +kernel
theorem dX10_feed_78 : decode cX10_feed 78 = .ok (.iaload, 1) := by decide +kernel
theorem dX10_feed_79 : decode cX10_feed 79 = .ok (.ifCond .le 6, 3) := by decide +kernel
theorem dX10_feed_82 : decode cX10_feed 82 = .ok (.bipush (-4), 2) := by decide +kernel
theorem dX10_feed_84 : decode cX10_feed 84 = .ok (.ireturn, 1) := by decide +kernel
theorem dX10_feed_85 : decode cX10_feed 85 = .ok (.aload_n 0, 1) := by decide +kernel
theorem dX10_feed_86 : decode cX10_feed 86 = .ok (.getfield 32, 3) := by decide +kernel
theorem dX10_feed_89 : decode cX10_feed 89 = .ok (.bipush 24, 2) := by decide +kernel
theorem dX10_feed_91 : decode cX10_feed 91 = .ok (.iload_n 1, 1) := by decide +kernel
theorem dX10_feed_92 : decode cX10_feed 92 = .ok (.imul, 1) := by decide +kernel
theorem dX10_feed_93 : decode cX10_feed 93 = .ok (.iload_n 2, 1) := by decide +kernel
theorem dX10_feed_94 : decode cX10_feed 94 = .ok (.iadd, 1) := by decide +kernel
theorem dX10_feed_95 : decode cX10_feed 95 = .ok (.iconst 1, 1) := by decide +kernel
theorem dX10_feed_96 : decode cX10_feed 96 = .ok (.bastore, 1) := by decide +kernel
theorem dX10_feed_97 : decode cX10_feed 97 = .ok (.aload_n 0, 1) := by decide +kernel
theorem dX10_feed_98 : decode cX10_feed 98 = .ok (.invokevirtual 137, 3) := by decide +kernel
theorem dX10_feed_101 : decode cX10_feed 101 = .ok (.ifCond .eq 18, 3) := by decide +kernel
theorem dX10_feed_104 : decode cX10_feed 104 = .ok (.aload_n 0, 1) := by decide +kernel
theorem dX10_feed_105 : decode cX10_feed 105 = .ok (.getfield 32, 3) := by decide +kernel
theorem dX10_feed_108 : decode cX10_feed 108 = .ok (.bipush 24, 2) := by decide +kernel
theorem dX10_feed_110 : decode cX10_feed 110 = .ok (.iload_n 1, 1) := by decide +kernel
theorem dX10_feed_111 : decode cX10_feed 111 = .ok (.imul, 1) := by decide +kernel
theorem dX10_feed_112 : decode cX10_feed 112 = .ok (.iload_n 2, 1) := by decide +kernel
theorem dX10_feed_113 : decode cX10_feed 113 = .ok (.iadd, 1) := by decide +kernel
theorem dX10_feed_114 : decode cX10_feed 114 = .ok (.iconst 0, 1) := by decide +kernel
theorem dX10_feed_115 : decode cX10_feed 115 = .ok (.bastore, 1) := by decide +kernel
theorem dX10_feed_116 : decode cX10_feed 116 = .ok (.bipush (-6), 2) := by decide +kernel
theorem dX10_feed_118 : decode cX10_feed 118 = .ok (.ireturn, 1) := by decide +kernel
theorem dX10_feed_119 : decode cX10_feed 119 = .ok (.aload_n 0, 1) := by decide +kernel
theorem dX10_feed_120 : decode cX10_feed 120 = .ok (.getfield 35, 3) := by decide +kernel
theorem dX10_feed_123 : decode cX10_feed 123 = .ok (.iload_n 1, 1) := by decide +kernel
theorem dX10_feed_124 : decode cX10_feed 124 = .ok (.dup2, 1) := by decide +kernel
theorem dX10_feed_125 : decode cX10_feed 125 = .ok (.iaload, 1) := by decide +kernel
theorem dX10_feed_126 : decode cX10_feed 126 = .ok (.iconst 1, 1) := by decide +kernel
theorem dX10_feed_127 : decode cX10_feed 127 = .ok (.iadd, 1) := by decide +kernel
theorem dX10_feed_128 : decode cX10_feed 128 = .ok (.iastore, 1) := by decide +kernel
theorem dX10_feed_129 : decode cX10_feed 129 = .ok (.aload_n 0, 1) := by decide +kernel
theorem dX10_feed_130 : decode cX10_feed 130 = .ok (.invokevirtual 141, 3) := by decide +kernel
theorem dX10_feed_133 : decode cX10_feed 133 = .ok (.aload_n 0, 1) := by decide +kernel
theorem dX10_feed_134 : decode cX10_feed 134 = .ok (.getfield 35, 3) := by decide +kernel
theorem dX10_feed_137 : decode cX10_feed 137 = .ok (.iload_n 1, 1) := by decide +kernel
theorem dX10_feed_138 : decode cX10_feed 138 = .ok (.iaload, 1) := by decide +kernel
theorem dX10_feed_139 : decode cX10_feed 139 = .ok (.ireturn, 1) := by decide +kernel
theorem dX10_window_0 : decode cX10_window 0 = .ok (.aload_n 0, 1) := by decide +kernel
theorem dX10_window_1 : decode cX10_window 1 = .ok (.iload_n 1, 1) := by decide +kernel
theorem dX10_window_2 : decode cX10_window 2 = .ok (.invokevirtual 134, 3) := by decide +kernel
theorem dX10_window_5 : decode cX10_window 5 = .ok (.ifCond .eq 35, 3) := by decide +kernel
theorem dX10_window_8 : decode cX10_window 8 = .ok (.iload_n 2, 1) := by decide +kernel
theorem dX10_window_9 : decode cX10_window 9 = .ok (.ifCond .lt 31, 3) := by decide +kernel
theorem dX10_window_12 : decode cX10_window 12 = .ok (.iload_n 2, 1) := by decide +kernel
theorem dX10_window_13 : decode cX10_window 13 = .ok (.iconst 5, 1) := by decide +kernel
theorem dX10_window_14 : decode cX10_window 14 = .ok (.if_icmp .gt 26, 3) := by decide +kernel
theorem dX10_window_17 : decode cX10_window 17 = .ok (.iload_n 3, 1) := by decide +kernel
theorem dX10_window_18 : decode cX10_window 18 = .ok (.ifCond .lt 22, 3) := by decide +kernel
theorem dX10_window_21 : decode cX10_window 21 = .ok (.iload_n 3, 1) := by decide +kernel
theorem dX10_window_22 : decode cX10_window 22 = .ok (.ldc 144, 2) := by decide +kernel
theorem dX10_window_24 : decode cX10_window 24 = .ok (.if_icmp .gt 16, 3) := by decide +kernel
theorem dX10_window_27 : decode cX10_window 27 = .ok (.iload 4, 2) := by decide +kernel
theorem dX10_window_29 : decode cX10_window 29 = .ok (.ifCond .lt 11, 3) := by decide +kernel
theorem dX10_window_32 : decode cX10_window 32 = .ok (.iload 4, 2) := by decide +kernel
theorem dX10_window_34 : decode cX10_window 34 = .ok (.sipush 1000, 3) := by decide +kernel
theorem dX10_window_37 : decode cX10_window 37 = .ok (.if_icmp .le 5, 3) := by decide +kernel
theorem dX10_window_40 : decode cX10_window 40 = .ok (.iconst (-1), 1) := by decide +kernel
theorem dX10_window_41 : decode cX10_window 41 = .ok (.ireturn, 1) := by decide +kernel
theorem dX10_window_42 : decode cX10_window 42 = .ok (.aload_n 0, 1) := by decide +kernel
theorem dX10_window_43 : decode cX10_window 43 = .ok (.iload_n 1, 1) := by decide +kernel
theorem dX10_window_44 : decode cX10_window 44 = .ok (.invokevirtual 130, 3) := by decide +kernel
theorem dX10_window_47 : decode cX10_window 47 = .ok (.ifCond .ne 6, 3) := by decide +kernel
theorem dX10_window_50 : decode cX10_window 50 = .ok (.bipush (-2), 2) := by decide +kernel
theorem dX10_window_52 : decode cX10_window 52 = .ok (.ireturn, 1) := by decide +kernel
theorem dX10_window_53 : decode cX10_window 53 = .ok (.aload_n 0, 1) := by decide +kernel
theorem dX10_window_54 : decode cX10_window 54 = .ok (.getfield 38, 3) := by decide +kernel
theorem dX10_window_57 : decode cX10_window 57 = .ok (.iload_n 1, 1) := by decide +kernel
theorem dX10_window_58 : decode cX10_window 58 = .ok (.iaload, 1) := by decide +kernel
theorem dX10_window_59 : decode cX10_window 59 = .ok (.ifCond .le 6, 3) := by decide +kernel
theorem dX10_window_62 : decode cX10_window 62 = .ok (.bipush (-4), 2) := by decide +kernel
theorem dX10_window_64 : decode cX10_window 64 = .ok (.ireturn, 1) := by decide +kernel
theorem dX10_window_65 : decode cX10_window 65 = .ok (.aload_n 0, 1) := by decide +kernel
theorem dX10_window_66 : decode cX10_window 66 = .ok (.getfield 44, 3) := by decide +kernel
theorem dX10_window_69 : decode cX10_window 69 = .ok (.iload_n 1, 1) := by decide +kernel
theorem dX10_window_70 : decode cX10_window 70 = .ok (.iload_n 2, 1) := by decide +kernel
theorem dX10_window_71 : decode cX10_window 71 = .ok (.iastore, 1) := by decide +kernel
theorem dX10_window_72 : decode cX10_window 72 = .ok (.aload_n 0, 1) := by decide +kernel
theorem dX10_window_73 : decode cX10_window 73 = .ok (.getfield 47, 3) := by decide +kernel
theorem dX10_window_76 : decode cX10_window 76 = .ok (.iload_n 1, 1) := by decide +kernel
theorem dX10_window_77 : decode cX10_window 77 = .ok (.iload_n 3, 1) := by decide +kernel
theorem dX10_window_78 : decode cX10_window 78 = .ok (.iastore, 1) := by decide +kernel
theorem dX10_window_79 : decode cX10_window 79 = .ok (.aload_n 0, 1) := by decide +kernel
theorem dX10_window_80 : decode cX10_window 80 = .ok (.getfield 50, 3) := by decide +kernel
theorem dX10_window_83 : decode cX10_window 83 = .ok (.iload_n 1, 1) := by decide +kernel
theorem dX10_window_84 : decode cX10_window 84 = .ok (.iload 4, 2) := by decide +kernel
theorem dX10_window_86 : decode cX10_window 86 = .ok (.iastore, 1) := by decide +kernel
theorem dX10_window_87 : decode cX10_window 87 = .ok (.iconst 1, 1) := by decide +kernel
theorem dX10_window_88 : decode cX10_window 88 = .ok (.ireturn, 1) := by decide +kernel
theorem dX10_sumOf_0 : decode cX10_sumOf 0 = .ok (.aload_n 0, 1) := by decide +kernel
theorem dX10_sumOf_1 : decode cX10_sumOf 1 = .ok (.getfield 44, 3) := by decide +kernel
theorem dX10_sumOf_4 : decode cX10_sumOf 4 = .ok (.aload_n 0, 1) := by decide +kernel
theorem dX10_sumOf_5 : decode cX10_sumOf 5 = .ok (.getfield 67, 3) := by decide +kernel
theorem dX10_sumOf_8 : decode cX10_sumOf 8 = .ok (.iload_n 1, 1) := by decide +kernel
theorem dX10_sumOf_9 : decode cX10_sumOf 9 = .ok (.iaload, 1) := by decide +kernel
theorem dX10_sumOf_10 : decode cX10_sumOf 10 = .ok (.iaload, 1) := by decide +kernel
theorem dX10_sumOf_11 : decode cX10_sumOf 11 = .ok (.istore_n 2, 1) := by decide +kernel
theorem dX10_sumOf_12 : decode cX10_sumOf 12 = .ok (.lconst 0, 1) := by decide +kernel
theorem dX10_sumOf_13 : decode cX10_sumOf 13 = .ok (.lstore_n 3, 1) := by decide +kernel
theorem dX10_sumOf_14 : decode cX10_sumOf 14 = .ok (.ldc2_w 147, 3) := by decide +kernel
theorem dX10_sumOf_17 : decode cX10_sumOf 17 = .ok (.lstore 5, 2) := by decide +kernel
theorem dX10_sumOf_19 : decode cX10_sumOf 19 = .ok (.ldc2_w 149, 3) := by decide +kernel
theorem dX10_sumOf_22 : decode cX10_sumOf 22 = .ok (.lstore 7, 2) := by decide +kernel
theorem dX10_sumOf_24 : decode cX10_sumOf 24 = .ok (.aload_n 0, 1) := by decide +kernel
theorem dX10_sumOf_25 : decode cX10_sumOf 25 = .ok (.getfield 85, 3) := by decide +kernel
theorem dX10_sumOf_28 : decode cX10_sumOf 28 = .ok (.iload_n 1, 1) := by decide +kernel
theorem dX10_sumOf_29 : decode cX10_sumOf 29 = .ok (.iaload, 1) := by decide +kernel
theorem dX10_sumOf_30 : decode cX10_sumOf 30 = .ok (.istore 9, 2) := by decide +kernel
theorem dX10_sumOf_32 : decode cX10_sumOf 32 = .ok (.iload 9, 2) := by decide +kernel
theorem dX10_sumOf_34 : decode cX10_sumOf 34 = .ok (.ifCond .lt 79, 3) := by decide +kernel
theorem dX10_sumOf_37 : decode cX10_sumOf 37 = .ok (.lload_n 3, 1) := by decide +kernel
theorem dX10_sumOf_38 : decode cX10_sumOf 38 = .ok (.aload_n 0, 1) := by decide +kernel
theorem dX10_sumOf_39 : decode cX10_sumOf 39 = .ok (.getfield 91, 3) := by decide +kernel
theorem dX10_sumOf_42 : decode cX10_sumOf 42 = .ok (.iload 9, 2) := by decide +kernel
theorem dX10_sumOf_44 : decode cX10_sumOf 44 = .ok (.laload, 1) := by decide +kernel
theorem dX10_sumOf_45 : decode cX10_sumOf 45 = .ok (.ladd, 1) := by decide +kernel
theorem dX10_sumOf_46 : decode cX10_sumOf 46 = .ok (.lstore_n 3, 1) := by decide +kernel
theorem dX10_sumOf_47 : decode cX10_sumOf 47 = .ok (.aload_n 0, 1) := by decide +kernel
theorem dX10_sumOf_48 : decode cX10_sumOf 48 = .ok (.getfield 91, 3) := by decide +kernel
theorem dX10_sumOf_51 : decode cX10_sumOf 51 = .ok (.iload 9, 2) := by decide +kernel
theorem dX10_sumOf_53 : decode cX10_sumOf 53 = .ok (.laload, 1) := by decide +kernel
theorem dX10_sumOf_54 : decode cX10_sumOf 54 = .ok (.lload 5, 2) := by decide +kernel
theorem dX10_sumOf_56 : decode cX10_sumOf 56 = .ok (.lcmp, 1) := by decide +kernel
theorem dX10_sumOf_57 : decode cX10_sumOf 57 = .ok (.ifCond .ge 13, 3) := by decide +kernel
theorem dX10_sumOf_60 : decode cX10_sumOf 60 = .ok (.aload_n 0, 1) := by decide +kernel
theorem dX10_sumOf_61 : decode cX10_sumOf 61 = .ok (.getfield 91, 3) := by decide +kernel
theorem dX10_sumOf_64 : decode cX10_sumOf 64 = .ok (.iload 9, 2) := by decide +kernel
theorem dX10_sumOf_66 : decode cX10_sumOf 66 = .ok (.laload, 1) := by decide +kernel
theorem dX10_sumOf_67 : decode cX10_sumOf 67 = .ok (.goto 5, 3) := by decide +kernel
theorem dX10_sumOf_70 : decode cX10_sumOf 70 = .ok (.lload 5, 2) := by decide +kernel
theorem dX10_sumOf_72 : decode cX10_sumOf 72 = .ok (.lstore 5, 2) := by decide +kernel
theorem dX10_sumOf_74 : decode cX10_sumOf 74 = .ok (.aload_n 0, 1) := by decide +kernel
theorem dX10_sumOf_75 : decode cX10_sumOf 75 = .ok (.getfield 91, 3) := by decide +kernel
theorem dX10_sumOf_78 : decode cX10_sumOf 78 = .ok (.iload 9, 2) := by decide +kernel
theorem dX10_sumOf_80 : decode cX10_sumOf 80 = .ok (.laload, 1) := by decide +kernel
theorem dX10_sumOf_81 : decode cX10_sumOf 81 = .ok (.lload 7, 2) := by decide +kernel
theorem dX10_sumOf_83 : decode cX10_sumOf 83 = .ok (.lcmp, 1) := by decide +kernel
theorem dX10_sumOf_84 : decode cX10_sumOf 84 = .ok (.ifCond .le 13, 3) := by decide +kernel
theorem dX10_sumOf_87 : decode cX10_sumOf 87 = .ok (.aload_n 0, 1) := by decide +kernel
theorem dX10_sumOf_88 : decode cX10_sumOf 88 = .ok (.getfield 91, 3) := by decide +kernel
theorem dX10_sumOf_91 : decode cX10_sumOf 91 = .ok (.iload 9, 2) := by decide +kernel
theorem dX10_sumOf_93 : decode cX10_sumOf 93 = .ok (.laload, 1) := by decide +kernel
theorem dX10_sumOf_94 : decode cX10_sumOf 94 = .ok (.goto 5, 3) := by decide +kernel
theorem dX10_sumOf_97 : decode cX10_sumOf 97 = .ok (.lload 7, 2) := by decide +kernel
theorem dX10_sumOf_99 : decode cX10_sumOf 99 = .ok (.lstore 7, 2) := by decide +kernel
theorem dX10_sumOf_101 : decode cX10_sumOf 101 = .ok (.aload_n 0, 1) := by decide +kernel
theorem dX10_sumOf_102 : decode cX10_sumOf 102 = .ok (.getfield 94, 3) := by decide +kernel
theorem dX10_sumOf_105 : decode cX10_sumOf 105 = .ok (.iload 9, 2) := by decide +kernel
theorem dX10_sumOf_107 : decode cX10_sumOf 107 = .ok (.iaload, 1) := by decide +kernel
theorem dX10_sumOf_108 : decode cX10_sumOf 108 = .ok (.istore 9, 2) := by decide +kernel
theorem dX10_sumOf_110 : decode cX10_sumOf 110 = .ok (.goto (-78), 3) := by decide +kernel
theorem dX10_sumOf_113 : decode cX10_sumOf 113 = .ok (.iload_n 2, 1) := by decide +kernel
theorem dX10_sumOf_114 : decode cX10_sumOf 114 = .ok (.iconst 4, 1) := by decide +kernel
theorem dX10_sumOf_115 : decode cX10_sumOf 115 = .ok (.if_icmp .ge 39, 3) := by decide +kernel
theorem dX10_sumOf_118 : decode cX10_sumOf 118 = .ok (.iload_n 2, 1) := by decide +kernel
theorem dX10_sumOf_119 : decode cX10_sumOf 119 = .ok (.ifCond .ne 13, 3) := by decide +kernel
theorem dX10_sumOf_122 : decode cX10_sumOf 122 = .ok (.aload_n 0, 1) := by decide +kernel
theorem dX10_sumOf_123 : decode cX10_sumOf 123 = .ok (.getfield 88, 3) := by decide +kernel
theorem dX10_sumOf_126 : decode cX10_sumOf 126 = .ok (.iload_n 1, 1) := by decide +kernel
theorem dX10_sumOf_127 : decode cX10_sumOf 127 = .ok (.iaload, 1) := by decide +kernel
theorem dX10_sumOf_128 : decode cX10_sumOf 128 = .ok (.i2l, 1) := by decide +kernel
theorem dX10_sumOf_129 : decode cX10_sumOf 129 = .ok (.goto 24, 3) := by decide +kernel
theorem dX10_sumOf_132 : decode cX10_sumOf 132 = .ok (.iload_n 2, 1) := by decide +kernel
theorem dX10_sumOf_133 : decode cX10_sumOf 133 = .ok (.iconst 1, 1) := by decide +kernel
theorem dX10_sumOf_134 : decode cX10_sumOf 134 = .ok (.if_icmp .ne 7, 3) := by decide +kernel
theorem dX10_sumOf_137 : decode cX10_sumOf 137 = .ok (.lload_n 3, 1) := by decide +kernel
theorem dX10_sumOf_138 : decode cX10_sumOf 138 = .ok (.goto 15, 3) := by decide +kernel
theorem dX10_sumOf_141 : decode cX10_sumOf 141 = .ok (.iload_n 2, 1) := by decide +kernel
theorem dX10_sumOf_142 : decode cX10_sumOf 142 = .ok (.iconst 2, 1) := by decide +kernel
theorem dX10_sumOf_143 : decode cX10_sumOf 143 = .ok (.if_icmp .ne 8, 3) := by decide +kernel
theorem dX10_sumOf_146 : decode cX10_sumOf 146 = .ok (.lload 5, 2) := by decide +kernel
theorem dX10_sumOf_148 : decode cX10_sumOf 148 = .ok (.goto 5, 3) := by decide +kernel
theorem dX10_sumOf_151 : decode cX10_sumOf 151 = .ok (.lload 7, 2) := by decide +kernel
theorem dX10_sumOf_153 : decode cX10_sumOf 153 = .ok (.lreturn, 1) := by decide +kernel
theorem dX10_sumOf_154 : decode cX10_sumOf 154 = .ok (.aload_n 0, 1) := by decide +kernel
theorem dX10_sumOf_155 : decode cX10_sumOf 155 = .ok (.iload_n 1, 1) := by decide +kernel
theorem dX10_sumOf_156 : decode cX10_sumOf 156 = .ok (.invokevirtual 151, 3) := by decide +kernel
theorem dX10_sumOf_159 : decode cX10_sumOf 159 = .ok (.istore 9, 2) := by decide +kernel
theorem dX10_sumOf_161 : decode cX10_sumOf 161 = .ok (.iload_n 2, 1) := by decide +kernel
theorem dX10_sumOf_162 : decode cX10_sumOf 162 = .ok (.iconst 5, 1) := by decide +kernel
theorem dX10_sumOf_163 : decode cX10_sumOf 163 = .ok (.if_icmp .ne 17, 3) := by decide +kernel
theorem dX10_sumOf_166 : decode cX10_sumOf 166 = .ok (.aload_n 0, 1) := by decide +kernel
theorem dX10_sumOf_167 : decode cX10_sumOf 167 = .ok (.getfield 116, 3) := by decide +kernel
theorem dX10_sumOf_170 : decode cX10_sumOf 170 = .ok (.iload 9, 2) := by decide +kernel
theorem dX10_sumOf_172 : decode cX10_sumOf 172 = .ok (.iconst 1, 1) := by decide +kernel
theorem dX10_sumOf_173 : decode cX10_sumOf 173 = .ok (.iadd, 1) := by decide +kernel
theorem dX10_sumOf_174 : decode cX10_sumOf 174 = .ok (.iconst 2, 1) := by decide +kernel
theorem dX10_sumOf_175 : decode cX10_sumOf 175 = .ok (.idiv, 1) := by decide +kernel
theorem dX10_sumOf_176 : decode cX10_sumOf 176 = .ok (.iconst 1, 1) := by decide +kernel
theorem dX10_sumOf_177 : decode cX10_sumOf 177 = .ok (.isub, 1) := by decide +kernel
theorem dX10_sumOf_178 : decode cX10_sumOf 178 = .ok (.laload, 1) := by decide +kernel
theorem dX10_sumOf_179 : decode cX10_sumOf 179 = .ok (.lreturn, 1) := by decide +kernel
theorem dX10_sumOf_180 : decode cX10_sumOf 180 = .ok (.iconst 1, 1) := by decide +kernel
theorem dX10_sumOf_181 : decode cX10_sumOf 181 = .ok (.istore 10, 2) := by decide +kernel
theorem dX10_sumOf_183 : decode cX10_sumOf 183 = .ok (.iconst 1, 1) := by decide +kernel
theorem dX10_sumOf_184 : decode cX10_sumOf 184 = .ok (.istore 11, 2) := by decide +kernel
theorem dX10_sumOf_186 : decode cX10_sumOf 186 = .ok (.iload 11, 2) := by decide +kernel
theorem dX10_sumOf_188 : decode cX10_sumOf 188 = .ok (.iload 9, 2) := by decide +kernel
theorem dX10_sumOf_190 : decode cX10_sumOf 190 = .ok (.if_icmp .ge 39, 3) := by decide +kernel
theorem dX10_sumOf_193 : decode cX10_sumOf 193 = .ok (.iload 10, 2) := by decide +kernel
theorem dX10_sumOf_195 : decode cX10_sumOf 195 = .ok (.aload_n 0, 1) := by decide +kernel
theorem dX10_sumOf_196 : decode cX10_sumOf 196 = .ok (.getfield 116, 3) := by decide +kernel
theorem dX10_sumOf_199 : decode cX10_sumOf 199 = .ok (.iload 11, 2) := by decide +kernel
theorem dX10_sumOf_201 : decode cX10_sumOf 201 = .ok (.laload, 1) := by decide +kernel
theorem dX10_sumOf_202 : decode cX10_sumOf 202 = .ok (.aload_n 0, 1) := by decide +kernel
theorem dX10_sumOf_203 : decode cX10_sumOf 203 = .ok (.getfield 116, 3) := by decide +kernel
theorem dX10_sumOf_206 : decode cX10_sumOf 206 = .ok (.iload 11, 2) := by decide +kernel
theorem dX10_sumOf_208 : decode cX10_sumOf 208 = .ok (.iconst 1, 1) := by decide +kernel
theorem dX10_sumOf_209 : decode cX10_sumOf 209 = .ok (.isub, 1) := by decide +kernel
theorem dX10_sumOf_210 : decode cX10_sumOf 210 = .ok (.laload, 1) := by decide +kernel
theorem dX10_sumOf_211 : decode cX10_sumOf 211 = .ok (.lcmp, 1) := by decide +kernel
theorem dX10_sumOf_212 : decode cX10_sumOf 212 = .ok (.ifCond .eq 7, 3) := by decide +kernel
theorem dX10_sumOf_215 : decode cX10_sumOf 215 = .ok (.iconst 1, 1) := by decide +kernel
theorem dX10_sumOf_216 : decode cX10_sumOf 216 = .ok (.goto 4, 3) := by decide +kernel
theorem dX10_sumOf_219 : decode cX10_sumOf 219 = .ok (.iconst 0, 1) := by decide +kernel
theorem dX10_sumOf_220 : decode cX10_sumOf 220 = .ok (.iadd, 1) := by decide +kernel
theorem dX10_sumOf_221 : decode cX10_sumOf 221 = .ok (.istore 10, 2) := by decide +kernel
theorem dX10_sumOf_223 : decode cX10_sumOf 223 = .ok (.iinc 11 1, 3) := by decide +kernel
theorem dX10_sumOf_226 : decode cX10_sumOf 226 = .ok (.goto (-40), 3) := by decide +kernel
theorem dX10_sumOf_229 : decode cX10_sumOf 229 = .ok (.iload 10, 2) := by decide +kernel
theorem dX10_sumOf_231 : decode cX10_sumOf 231 = .ok (.i2l, 1) := by decide +kernel
theorem dX10_sumOf_232 : decode cX10_sumOf 232 = .ok (.lreturn, 1) := by decide +kernel
theorem dX10_inOrder_0 : decode cX10_inOrder 0 = .ok (.iconst 0, 1) := by decide +kernel
theorem dX10_inOrder_1 : decode cX10_inOrder 1 = .ok (.istore_n 2, 1) := by decide +kernel
theorem dX10_inOrder_2 : decode cX10_inOrder 2 = .ok (.aload_n 0, 1) := by decide +kernel
theorem dX10_inOrder_3 : decode cX10_inOrder 3 = .ok (.getfield 85, 3) := by decide +kernel
theorem dX10_inOrder_6 : decode cX10_inOrder 6 = .ok (.iload_n 1, 1) := by decide +kernel
theorem dX10_inOrder_7 : decode cX10_inOrder 7 = .ok (.iaload, 1) := by decide +kernel
theorem dX10_inOrder_8 : decode cX10_inOrder 8 = .ok (.istore_n 3, 1) := by decide +kernel
theorem dX10_inOrder_9 : decode cX10_inOrder 9 = .ok (.iload_n 3, 1) := by decide +kernel
theorem dX10_inOrder_10 : decode cX10_inOrder 10 = .ok (.ifCond .lt 78, 3) := by decide +kernel
theorem dX10_inOrder_13 : decode cX10_inOrder 13 = .ok (.iload_n 2, 1) := by decide +kernel
theorem dX10_inOrder_14 : decode cX10_inOrder 14 = .ok (.istore 4, 2) := by decide +kernel
theorem dX10_inOrder_16 : decode cX10_inOrder 16 = .ok (.iload 4, 2) := by decide +kernel
theorem dX10_inOrder_18 : decode cX10_inOrder 18 = .ok (.ifCond .le 44, 3) := by decide +kernel
theorem dX10_inOrder_21 : decode cX10_inOrder 21 = .ok (.aload_n 0, 1) := by decide +kernel
theorem dX10_inOrder_22 : decode cX10_inOrder 22 = .ok (.getfield 116, 3) := by decide +kernel
theorem dX10_inOrder_25 : decode cX10_inOrder 25 = .ok (.iload 4, 2) := by decide +kernel
theorem dX10_inOrder_27 : decode cX10_inOrder 27 = .ok (.iconst 1, 1) := by decide +kernel
theorem dX10_inOrder_28 : decode cX10_inOrder 28 = .ok (.isub, 1) := by decide +kernel
theorem dX10_inOrder_29 : decode cX10_inOrder 29 = .ok (.laload, 1) := by decide +kernel
theorem dX10_inOrder_30 : decode cX10_inOrder 30 = .ok (.aload_n 0, 1) := by decide +kernel
theorem dX10_inOrder_31 : decode cX10_inOrder 31 = .ok (.getfield 91, 3) := by decide +kernel
theorem dX10_inOrder_34 : decode cX10_inOrder 34 = .ok (.iload_n 3, 1) := by decide +kernel
theorem dX10_inOrder_35 : decode cX10_inOrder 35 = .ok (.laload, 1) := by decide +kernel
theorem dX10_inOrder_36 : decode cX10_inOrder 36 = .ok (.lcmp, 1) := by decide +kernel
theorem dX10_inOrder_37 : decode cX10_inOrder 37 = .ok (.ifCond .le 25, 3) := by decide +kernel
theorem dX10_inOrder_40 : decode cX10_inOrder 40 = .ok (.aload_n 0, 1) := by decide +kernel
theorem dX10_inOrder_41 : decode cX10_inOrder 41 = .ok (.getfield 116, 3) := by decide +kernel
theorem dX10_inOrder_44 : decode cX10_inOrder 44 = .ok (.iload 4, 2) := by decide +kernel
theorem dX10_inOrder_46 : decode cX10_inOrder 46 = .ok (.aload_n 0, 1) := by decide +kernel
theorem dX10_inOrder_47 : decode cX10_inOrder 47 = .ok (.getfield 116, 3) := by decide +kernel
theorem dX10_inOrder_50 : decode cX10_inOrder 50 = .ok (.iload 4, 2) := by decide +kernel
theorem dX10_inOrder_52 : decode cX10_inOrder 52 = .ok (.iconst 1, 1) := by decide +kernel
theorem dX10_inOrder_53 : decode cX10_inOrder 53 = .ok (.isub, 1) := by decide +kernel
theorem dX10_inOrder_54 : decode cX10_inOrder 54 = .ok (.laload, 1) := by decide +kernel
theorem dX10_inOrder_55 : decode cX10_inOrder 55 = .ok (.lastore, 1) := by decide +kernel
theorem dX10_inOrder_56 : decode cX10_inOrder 56 = .ok (.iinc 4 (-1), 3) := by decide +kernel
theorem dX10_inOrder_59 : decode cX10_inOrder 59 = .ok (.goto (-43), 3) := by decide +kernel
theorem dX10_inOrder_62 : decode cX10_inOrder 62 = .ok (.aload_n 0, 1) := by decide +kernel
theorem dX10_inOrder_63 : decode cX10_inOrder 63 = .ok (.getfield 116, 3) := by decide +kernel
theorem dX10_inOrder_66 : decode cX10_inOrder 66 = .ok (.iload 4, 2) := by decide +kernel
theorem dX10_inOrder_68 : decode cX10_inOrder 68 = .ok (.aload_n 0, 1) := by decide +kernel
theorem dX10_inOrder_69 : decode cX10_inOrder 69 = .ok (.getfield 91, 3) := by decide +kernel
theorem dX10_inOrder_72 : decode cX10_inOrder 72 = .ok (.iload_n 3, 1) := by decide +kernel
theorem dX10_inOrder_73 : decode cX10_inOrder 73 = .ok (.laload, 1) := by decide +kernel
theorem dX10_inOrder_74 : decode cX10_inOrder 74 = .ok (.lastore, 1) := by decide +kernel
theorem dX10_inOrder_75 : decode cX10_inOrder 75 = .ok (.iinc 2 1, 3) := by decide +kernel
theorem dX10_inOrder_78 : decode cX10_inOrder 78 = .ok (.aload_n 0, 1) := by decide +kernel
theorem dX10_inOrder_79 : decode cX10_inOrder 79 = .ok (.getfield 94, 3) := by decide +kernel
theorem dX10_inOrder_82 : decode cX10_inOrder 82 = .ok (.iload_n 3, 1) := by decide +kernel
theorem dX10_inOrder_83 : decode cX10_inOrder 83 = .ok (.iaload, 1) := by decide +kernel
theorem dX10_inOrder_84 : decode cX10_inOrder 84 = .ok (.istore_n 3, 1) := by decide +kernel
theorem dX10_inOrder_85 : decode cX10_inOrder 85 = .ok (.goto (-76), 3) := by decide +kernel
theorem dX10_inOrder_88 : decode cX10_inOrder 88 = .ok (.iload_n 2, 1) := by decide +kernel
theorem dX10_inOrder_89 : decode cX10_inOrder 89 = .ok (.ireturn, 1) := by decide +kernel
theorem dX10_addRow_0 : decode cX10_addRow 0 = .ok (.aload_n 0, 1) := by decide +kernel
theorem dX10_addRow_1 : decode cX10_addRow 1 = .ok (.getfield 98, 3) := by decide +kernel
theorem dX10_addRow_4 : decode cX10_addRow 4 = .ok (.aload_n 0, 1) := by decide +kernel
theorem dX10_addRow_5 : decode cX10_addRow 5 = .ok (.getfield 155, 3) := by decide +kernel
theorem dX10_addRow_8 : decode cX10_addRow 8 = .ok (.iload_n 1, 1) := by decide +kernel
theorem dX10_addRow_9 : decode cX10_addRow 9 = .ok (.iastore, 1) := by decide +kernel
theorem dX10_addRow_10 : decode cX10_addRow 10 = .ok (.aload_n 0, 1) := by decide +kernel
theorem dX10_addRow_11 : decode cX10_addRow 11 = .ok (.getfield 101, 3) := by decide +kernel
theorem dX10_addRow_14 : decode cX10_addRow 14 = .ok (.aload_n 0, 1) := by decide +kernel
theorem dX10_addRow_15 : decode cX10_addRow 15 = .ok (.getfield 155, 3) := by decide +kernel
theorem dX10_addRow_18 : decode cX10_addRow 18 = .ok (.aload_n 0, 1) := by decide +kernel
theorem dX10_addRow_19 : decode cX10_addRow 19 = .ok (.getfield 67, 3) := by decide +kernel
theorem dX10_addRow_22 : decode cX10_addRow 22 = .ok (.iload_n 2, 1) := by decide +kernel
theorem dX10_addRow_23 : decode cX10_addRow 23 = .ok (.iaload, 1) := by decide +kernel
theorem dX10_addRow_24 : decode cX10_addRow 24 = .ok (.iastore, 1) := by decide +kernel
theorem dX10_addRow_25 : decode cX10_addRow 25 = .ok (.aload_n 0, 1) := by decide +kernel
theorem dX10_addRow_26 : decode cX10_addRow 26 = .ok (.getfield 104, 3) := by decide +kernel
theorem dX10_addRow_29 : decode cX10_addRow 29 = .ok (.aload_n 0, 1) := by decide +kernel
theorem dX10_addRow_30 : decode cX10_addRow 30 = .ok (.getfield 155, 3) := by decide +kernel
theorem dX10_addRow_33 : decode cX10_addRow 33 = .ok (.aload_n 0, 1) := by decide +kernel
theorem dX10_addRow_34 : decode cX10_addRow 34 = .ok (.getfield 70, 3) := by decide +kernel
theorem dX10_addRow_37 : decode cX10_addRow 37 = .ok (.iload_n 2, 1) := by decide +kernel
theorem dX10_addRow_38 : decode cX10_addRow 38 = .ok (.iaload, 1) := by decide +kernel
theorem dX10_addRow_39 : decode cX10_addRow 39 = .ok (.iastore, 1) := by decide +kernel
theorem dX10_addRow_40 : decode cX10_addRow 40 = .ok (.aload_n 0, 1) := by decide +kernel
theorem dX10_addRow_41 : decode cX10_addRow 41 = .ok (.getfield 107, 3) := by decide +kernel
theorem dX10_addRow_44 : decode cX10_addRow 44 = .ok (.aload_n 0, 1) := by decide +kernel
theorem dX10_addRow_45 : decode cX10_addRow 45 = .ok (.getfield 155, 3) := by decide +kernel
theorem dX10_addRow_48 : decode cX10_addRow 48 = .ok (.aload_n 0, 1) := by decide +kernel
theorem dX10_addRow_49 : decode cX10_addRow 49 = .ok (.getfield 73, 3) := by decide +kernel
theorem dX10_addRow_52 : decode cX10_addRow 52 = .ok (.iload_n 2, 1) := by decide +kernel
theorem dX10_addRow_53 : decode cX10_addRow 53 = .ok (.iaload, 1) := by decide +kernel
theorem dX10_addRow_54 : decode cX10_addRow 54 = .ok (.iastore, 1) := by decide +kernel
theorem dX10_addRow_55 : decode cX10_addRow 55 = .ok (.aload_n 0, 1) := by decide +kernel
theorem dX10_addRow_56 : decode cX10_addRow 56 = .ok (.getfield 110, 3) := by decide +kernel
theorem dX10_addRow_59 : decode cX10_addRow 59 = .ok (.aload_n 0, 1) := by decide +kernel
theorem dX10_addRow_60 : decode cX10_addRow 60 = .ok (.getfield 155, 3) := by decide +kernel
theorem dX10_addRow_63 : decode cX10_addRow 63 = .ok (.aload_n 0, 1) := by decide +kernel
theorem dX10_addRow_64 : decode cX10_addRow 64 = .ok (.getfield 76, 3) := by decide +kernel
theorem dX10_addRow_67 : decode cX10_addRow 67 = .ok (.iload_n 2, 1) := by decide +kernel
theorem dX10_addRow_68 : decode cX10_addRow 68 = .ok (.iaload, 1) := by decide +kernel
theorem dX10_addRow_69 : decode cX10_addRow 69 = .ok (.iastore, 1) := by decide +kernel
theorem dX10_addRow_70 : decode cX10_addRow 70 = .ok (.aload_n 0, 1) := by decide +kernel
theorem dX10_addRow_71 : decode cX10_addRow 71 = .ok (.getfield 113, 3) := by decide +kernel
theorem dX10_addRow_74 : decode cX10_addRow 74 = .ok (.aload_n 0, 1) := by decide +kernel
theorem dX10_addRow_75 : decode cX10_addRow 75 = .ok (.getfield 155, 3) := by decide +kernel
theorem dX10_addRow_78 : decode cX10_addRow 78 = .ok (.lload_n 3, 1) := by decide +kernel
theorem dX10_addRow_79 : decode cX10_addRow 79 = .ok (.lastore, 1) := by decide +kernel
theorem dX10_addRow_80 : decode cX10_addRow 80 = .ok (.aload_n 0, 1) := by decide +kernel
theorem dX10_addRow_81 : decode cX10_addRow 81 = .ok (.dup, 1) := by decide +kernel
theorem dX10_addRow_82 : decode cX10_addRow 82 = .ok (.getfield 155, 3) := by decide +kernel
theorem dX10_addRow_85 : decode cX10_addRow 85 = .ok (.iconst 1, 1) := by decide +kernel
theorem dX10_addRow_86 : decode cX10_addRow 86 = .ok (.iadd, 1) := by decide +kernel
theorem dX10_addRow_87 : decode cX10_addRow 87 = .ok (.putfield 155, 3) := by decide +kernel
theorem dX10_addRow_90 : decode cX10_addRow 90 = .ok (.return_, 1) := by decide +kernel
theorem dX10_takeBack_0 : decode cX10_takeBack 0 = .ok (.aload_n 0, 1) := by decide +kernel
theorem dX10_takeBack_1 : decode cX10_takeBack 1 = .ok (.getfield 82, 3) := by decide +kernel
theorem dX10_takeBack_4 : decode cX10_takeBack 4 = .ok (.iload_n 1, 1) := by decide +kernel
theorem dX10_takeBack_5 : decode cX10_takeBack 5 = .ok (.iaload, 1) := by decide +kernel
theorem dX10_takeBack_6 : decode cX10_takeBack 6 = .ok (.ifCond .lt 27, 3) := by decide +kernel
theorem dX10_takeBack_9 : decode cX10_takeBack 9 = .ok (.aload_n 0, 1) := by decide +kernel
theorem dX10_takeBack_10 : decode cX10_takeBack 10 = .ok (.iconst 1, 1) := by decide +kernel
theorem dX10_takeBack_11 : decode cX10_takeBack 11 = .ok (.iload_n 1, 1) := by decide +kernel
theorem dX10_takeBack_12 : decode cX10_takeBack 12 = .ok (.aload_n 0, 1) := by decide +kernel
theorem dX10_takeBack_13 : decode cX10_takeBack 13 = .ok (.getfield 113, 3) := by decide +kernel
theorem dX10_takeBack_16 : decode cX10_takeBack 16 = .ok (.aload_n 0, 1) := by decide +kernel
theorem dX10_takeBack_17 : decode cX10_takeBack 17 = .ok (.getfield 82, 3) := by decide +kernel
theorem dX10_takeBack_20 : decode cX10_takeBack 20 = .ok (.iload_n 1, 1) := by decide +kernel
theorem dX10_takeBack_21 : decode cX10_takeBack 21 = .ok (.iaload, 1) := by decide +kernel
theorem dX10_takeBack_22 : decode cX10_takeBack 22 = .ok (.laload, 1) := by decide +kernel
theorem dX10_takeBack_23 : decode cX10_takeBack 23 = .ok (.invokevirtual 158, 3) := by decide +kernel
theorem dX10_takeBack_26 : decode cX10_takeBack 26 = .ok (.aload_n 0, 1) := by decide +kernel
theorem dX10_takeBack_27 : decode cX10_takeBack 27 = .ok (.getfield 82, 3) := by decide +kernel
theorem dX10_takeBack_30 : decode cX10_takeBack 30 = .ok (.iload_n 1, 1) := by decide +kernel
theorem dX10_takeBack_31 : decode cX10_takeBack 31 = .ok (.iconst (-1), 1) := by decide +kernel
theorem dX10_takeBack_32 : decode cX10_takeBack 32 = .ok (.iastore, 1) := by decide +kernel
theorem dX10_takeBack_33 : decode cX10_takeBack 33 = .ok (.return_, 1) := by decide +kernel
theorem dX10_give_0 : decode cX10_give 0 = .ok (.aload_n 0, 1) := by decide +kernel
theorem dX10_give_1 : decode cX10_give 1 = .ok (.iload_n 1, 1) := by decide +kernel
theorem dX10_give_2 : decode cX10_give 2 = .ok (.invokevirtual 162, 3) := by decide +kernel
theorem dX10_give_5 : decode cX10_give 5 = .ok (.aload_n 0, 1) := by decide +kernel
theorem dX10_give_6 : decode cX10_give 6 = .ok (.getfield 82, 3) := by decide +kernel
theorem dX10_give_9 : decode cX10_give 9 = .ok (.iload_n 1, 1) := by decide +kernel
theorem dX10_give_10 : decode cX10_give 10 = .ok (.aload_n 0, 1) := by decide +kernel
theorem dX10_give_11 : decode cX10_give 11 = .ok (.getfield 155, 3) := by decide +kernel
theorem dX10_give_14 : decode cX10_give 14 = .ok (.iastore, 1) := by decide +kernel
theorem dX10_give_15 : decode cX10_give 15 = .ok (.aload_n 0, 1) := by decide +kernel
theorem dX10_give_16 : decode cX10_give 16 = .ok (.iconst 0, 1) := by decide +kernel
theorem dX10_give_17 : decode cX10_give 17 = .ok (.iload_n 1, 1) := by decide +kernel
theorem dX10_give_18 : decode cX10_give 18 = .ok (.aload_n 0, 1) := by decide +kernel
theorem dX10_give_19 : decode cX10_give 19 = .ok (.iload_n 1, 1) := by decide +kernel
theorem dX10_give_20 : decode cX10_give 20 = .ok (.invokevirtual 166, 3) := by decide +kernel
theorem dX10_give_23 : decode cX10_give 23 = .ok (.invokevirtual 158, 3) := by decide +kernel
theorem dX10_give_26 : decode cX10_give 26 = .ok (.return_, 1) := by decide +kernel
theorem dX10_newWindow_0 : decode cX10_newWindow 0 = .ok (.aload_n 0, 1) := by decide +kernel
theorem dX10_newWindow_1 : decode cX10_newWindow 1 = .ok (.getfield 170, 3) := by decide +kernel
theorem dX10_newWindow_4 : decode cX10_newWindow 4 = .ok (.istore 5, 2) := by decide +kernel
theorem dX10_newWindow_6 : decode cX10_newWindow 6 = .ok (.aload_n 0, 1) := by decide +kernel
theorem dX10_newWindow_7 : decode cX10_newWindow 7 = .ok (.getfield 67, 3) := by decide +kernel
theorem dX10_newWindow_10 : decode cX10_newWindow 10 = .ok (.iload 5, 2) := by decide +kernel
theorem dX10_newWindow_12 : decode cX10_newWindow 12 = .ok (.iload_n 1, 1) := by decide +kernel
theorem dX10_newWindow_13 : decode cX10_newWindow 13 = .ok (.iastore, 1) := by decide +kernel
theorem dX10_newWindow_14 : decode cX10_newWindow 14 = .ok (.aload_n 0, 1) := by decide +kernel
theorem dX10_newWindow_15 : decode cX10_newWindow 15 = .ok (.getfield 70, 3) := by decide +kernel
theorem dX10_newWindow_18 : decode cX10_newWindow 18 = .ok (.iload 5, 2) := by decide +kernel
theorem dX10_newWindow_20 : decode cX10_newWindow 20 = .ok (.iload_n 2, 1) := by decide +kernel
theorem dX10_newWindow_21 : decode cX10_newWindow 21 = .ok (.iastore, 1) := by decide +kernel
theorem dX10_newWindow_22 : decode cX10_newWindow 22 = .ok (.aload_n 0, 1) := by decide +kernel
theorem dX10_newWindow_23 : decode cX10_newWindow 23 = .ok (.getfield 73, 3) := by decide +kernel
theorem dX10_newWindow_26 : decode cX10_newWindow 26 = .ok (.iload 5, 2) := by decide +kernel
theorem dX10_newWindow_28 : decode cX10_newWindow 28 = .ok (.iload_n 3, 1) := by decide +kernel
theorem dX10_newWindow_29 : decode cX10_newWindow 29 = .ok (.iastore, 1) := by decide +kernel
theorem dX10_newWindow_30 : decode cX10_newWindow 30 = .ok (.aload_n 0, 1) := by decide +kernel
theorem dX10_newWindow_31 : decode cX10_newWindow 31 = .ok (.getfield 76, 3) := by decide +kernel
theorem dX10_newWindow_34 : decode cX10_newWindow 34 = .ok (.iload 5, 2) := by decide +kernel
theorem dX10_newWindow_36 : decode cX10_newWindow 36 = .ok (.iload 4, 2) := by decide +kernel
theorem dX10_newWindow_38 : decode cX10_newWindow 38 = .ok (.iastore, 1) := by decide +kernel
theorem dX10_newWindow_39 : decode cX10_newWindow 39 = .ok (.aload_n 0, 1) := by decide +kernel
theorem dX10_newWindow_40 : decode cX10_newWindow 40 = .ok (.getfield 79, 3) := by decide +kernel
theorem dX10_newWindow_43 : decode cX10_newWindow 43 = .ok (.iload 5, 2) := by decide +kernel
theorem dX10_newWindow_45 : decode cX10_newWindow 45 = .ok (.iconst 1, 1) := by decide +kernel
theorem dX10_newWindow_46 : decode cX10_newWindow 46 = .ok (.bastore, 1) := by decide +kernel
theorem dX10_newWindow_47 : decode cX10_newWindow 47 = .ok (.aload_n 0, 1) := by decide +kernel
theorem dX10_newWindow_48 : decode cX10_newWindow 48 = .ok (.getfield 82, 3) := by decide +kernel
theorem dX10_newWindow_51 : decode cX10_newWindow 51 = .ok (.iload 5, 2) := by decide +kernel
theorem dX10_newWindow_53 : decode cX10_newWindow 53 = .ok (.iconst (-1), 1) := by decide +kernel
theorem dX10_newWindow_54 : decode cX10_newWindow 54 = .ok (.iastore, 1) := by decide +kernel
theorem dX10_newWindow_55 : decode cX10_newWindow 55 = .ok (.aload_n 0, 1) := by decide +kernel
theorem dX10_newWindow_56 : decode cX10_newWindow 56 = .ok (.getfield 85, 3) := by decide +kernel
theorem dX10_newWindow_59 : decode cX10_newWindow 59 = .ok (.iload 5, 2) := by decide +kernel
theorem dX10_newWindow_61 : decode cX10_newWindow 61 = .ok (.iconst (-1), 1) := by decide +kernel
theorem dX10_newWindow_62 : decode cX10_newWindow 62 = .ok (.iastore, 1) := by decide +kernel
theorem dX10_newWindow_63 : decode cX10_newWindow 63 = .ok (.aload_n 0, 1) := by decide +kernel
theorem dX10_newWindow_64 : decode cX10_newWindow 64 = .ok (.getfield 88, 3) := by decide +kernel
theorem dX10_newWindow_67 : decode cX10_newWindow 67 = .ok (.iload 5, 2) := by decide +kernel
theorem dX10_newWindow_69 : decode cX10_newWindow 69 = .ok (.iconst 0, 1) := by decide +kernel
theorem dX10_newWindow_70 : decode cX10_newWindow 70 = .ok (.iastore, 1) := by decide +kernel
theorem dX10_newWindow_71 : decode cX10_newWindow 71 = .ok (.aload_n 0, 1) := by decide +kernel
theorem dX10_newWindow_72 : decode cX10_newWindow 72 = .ok (.dup, 1) := by decide +kernel
theorem dX10_newWindow_73 : decode cX10_newWindow 73 = .ok (.getfield 170, 3) := by decide +kernel
theorem dX10_newWindow_76 : decode cX10_newWindow 76 = .ok (.iconst 1, 1) := by decide +kernel
theorem dX10_newWindow_77 : decode cX10_newWindow 77 = .ok (.iadd, 1) := by decide +kernel
theorem dX10_newWindow_78 : decode cX10_newWindow 78 = .ok (.putfield 170, 3) := by decide +kernel
theorem dX10_newWindow_81 : decode cX10_newWindow 81 = .ok (.iload 5, 2) := by decide +kernel
theorem dX10_newWindow_83 : decode cX10_newWindow 83 = .ok (.ireturn, 1) := by decide +kernel
theorem dX10_addEvent_0 : decode cX10_addEvent 0 = .ok (.aload_n 0, 1) := by decide +kernel
theorem dX10_addEvent_1 : decode cX10_addEvent 1 = .ok (.getfield 91, 3) := by decide +kernel
theorem dX10_addEvent_4 : decode cX10_addEvent 4 = .ok (.aload_n 0, 1) := by decide +kernel
theorem dX10_addEvent_5 : decode cX10_addEvent 5 = .ok (.getfield 173, 3) := by decide +kernel
theorem dX10_addEvent_8 : decode cX10_addEvent 8 = .ok (.lload_n 2, 1) := by decide +kernel
theorem dX10_addEvent_9 : decode cX10_addEvent 9 = .ok (.lastore, 1) := by decide +kernel
theorem dX10_addEvent_10 : decode cX10_addEvent 10 = .ok (.aload_n 0, 1) := by decide +kernel
theorem dX10_addEvent_11 : decode cX10_addEvent 11 = .ok (.getfield 94, 3) := by decide +kernel
theorem dX10_addEvent_14 : decode cX10_addEvent 14 = .ok (.aload_n 0, 1) := by decide +kernel
theorem dX10_addEvent_15 : decode cX10_addEvent 15 = .ok (.getfield 173, 3) := by decide +kernel
theorem dX10_addEvent_18 : decode cX10_addEvent 18 = .ok (.aload_n 0, 1) := by decide +kernel
theorem dX10_addEvent_19 : decode cX10_addEvent 19 = .ok (.getfield 85, 3) := by decide +kernel
theorem dX10_addEvent_22 : decode cX10_addEvent 22 = .ok (.iload_n 1, 1) := by decide +kernel
theorem dX10_addEvent_23 : decode cX10_addEvent 23 = .ok (.iaload, 1) := by decide +kernel
theorem dX10_addEvent_24 : decode cX10_addEvent 24 = .ok (.iastore, 1) := by decide +kernel
theorem dX10_addEvent_25 : decode cX10_addEvent 25 = .ok (.aload_n 0, 1) := by decide +kernel
theorem dX10_addEvent_26 : decode cX10_addEvent 26 = .ok (.getfield 85, 3) := by decide +kernel
theorem dX10_addEvent_29 : decode cX10_addEvent 29 = .ok (.iload_n 1, 1) := by decide +kernel
theorem dX10_addEvent_30 : decode cX10_addEvent 30 = .ok (.aload_n 0, 1) := by decide +kernel
theorem dX10_addEvent_31 : decode cX10_addEvent 31 = .ok (.getfield 173, 3) := by decide +kernel
theorem dX10_addEvent_34 : decode cX10_addEvent 34 = .ok (.iastore, 1) := by decide +kernel
theorem dX10_addEvent_35 : decode cX10_addEvent 35 = .ok (.aload_n 0, 1) := by decide +kernel
theorem dX10_addEvent_36 : decode cX10_addEvent 36 = .ok (.getfield 88, 3) := by decide +kernel
theorem dX10_addEvent_39 : decode cX10_addEvent 39 = .ok (.iload_n 1, 1) := by decide +kernel
theorem dX10_addEvent_40 : decode cX10_addEvent 40 = .ok (.dup2, 1) := by decide +kernel
theorem dX10_addEvent_41 : decode cX10_addEvent 41 = .ok (.iaload, 1) := by decide +kernel
theorem dX10_addEvent_42 : decode cX10_addEvent 42 = .ok (.iconst 1, 1) := by decide +kernel
theorem dX10_addEvent_43 : decode cX10_addEvent 43 = .ok (.iadd, 1) := by decide +kernel
theorem dX10_addEvent_44 : decode cX10_addEvent 44 = .ok (.iastore, 1) := by decide +kernel
theorem dX10_addEvent_45 : decode cX10_addEvent 45 = .ok (.aload_n 0, 1) := by decide +kernel
theorem dX10_addEvent_46 : decode cX10_addEvent 46 = .ok (.dup, 1) := by decide +kernel
theorem dX10_addEvent_47 : decode cX10_addEvent 47 = .ok (.getfield 173, 3) := by decide +kernel
theorem dX10_addEvent_50 : decode cX10_addEvent 50 = .ok (.iconst 1, 1) := by decide +kernel
theorem dX10_addEvent_51 : decode cX10_addEvent 51 = .ok (.iadd, 1) := by decide +kernel
theorem dX10_addEvent_52 : decode cX10_addEvent 52 = .ok (.putfield 173, 3) := by decide +kernel
theorem dX10_addEvent_55 : decode cX10_addEvent 55 = .ok (.return_, 1) := by decide +kernel
theorem dX10_isEarly_0 : decode cX10_isEarly 0 = .ok (.aload_n 0, 1) := by decide +kernel
theorem dX10_isEarly_1 : decode cX10_isEarly 1 = .ok (.getfield 50, 3) := by decide +kernel
theorem dX10_isEarly_4 : decode cX10_isEarly 4 = .ok (.aload_n 0, 1) := by decide +kernel
theorem dX10_isEarly_5 : decode cX10_isEarly 5 = .ok (.getfield 67, 3) := by decide +kernel
theorem dX10_isEarly_8 : decode cX10_isEarly 8 = .ok (.iload_n 1, 1) := by decide +kernel
theorem dX10_isEarly_9 : decode cX10_isEarly 9 = .ok (.iaload, 1) := by decide +kernel
theorem dX10_isEarly_10 : decode cX10_isEarly 10 = .ok (.iaload, 1) := by decide +kernel
theorem dX10_isEarly_11 : decode cX10_isEarly 11 = .ok (.istore_n 2, 1) := by decide +kernel
theorem dX10_isEarly_12 : decode cX10_isEarly 12 = .ok (.iload_n 2, 1) := by decide +kernel
theorem dX10_isEarly_13 : decode cX10_isEarly 13 = .ok (.ifCond .le 18, 3) := by decide +kernel
theorem dX10_isEarly_16 : decode cX10_isEarly 16 = .ok (.aload_n 0, 1) := by decide +kernel
theorem dX10_isEarly_17 : decode cX10_isEarly 17 = .ok (.getfield 88, 3) := by decide +kernel
theorem dX10_isEarly_20 : decode cX10_isEarly 20 = .ok (.iload_n 1, 1) := by decide +kernel
theorem dX10_isEarly_21 : decode cX10_isEarly 21 = .ok (.iaload, 1) := by decide +kernel
theorem dX10_isEarly_22 : decode cX10_isEarly 22 = .ok (.iload_n 2, 1) := by decide +kernel
theorem dX10_isEarly_23 : decode cX10_isEarly 23 = .ok (.irem, 1) := by decide +kernel
theorem dX10_isEarly_24 : decode cX10_isEarly 24 = .ok (.ifCond .ne 7, 3) := by decide +kernel
theorem dX10_isEarly_27 : decode cX10_isEarly 27 = .ok (.iconst 1, 1) := by decide +kernel
theorem dX10_isEarly_28 : decode cX10_isEarly 28 = .ok (.goto 4, 3) := by decide +kernel
theorem dX10_isEarly_31 : decode cX10_isEarly 31 = .ok (.iconst 0, 1) := by decide +kernel
theorem dX10_isEarly_32 : decode cX10_isEarly 32 = .ok (.ireturn, 1) := by decide +kernel
theorem dX10_comeFixed_0 : decode cX10_comeFixed 0 = .ok (.aload_n 0, 1) := by decide +kernel
theorem dX10_comeFixed_1 : decode cX10_comeFixed 1 = .ok (.getfield 17, 3) := by decide +kernel
theorem dX10_comeFixed_4 : decode cX10_comeFixed 4 = .ok (.iload_n 1, 1) := by decide +kernel
theorem dX10_comeFixed_5 : decode cX10_comeFixed 5 = .ok (.iaload, 1) := by decide +kernel
theorem dX10_comeFixed_6 : decode cX10_comeFixed 6 = .ok (.iconst 4, 1) := by decide +kernel
theorem dX10_comeFixed_7 : decode cX10_comeFixed 7 = .ok (.if_icmp .ne 12, 3) := by decide +kernel
theorem dX10_comeFixed_10 : decode cX10_comeFixed 10 = .ok (.aload_n 0, 1) := by decide +kernel
theorem dX10_comeFixed_11 : decode cX10_comeFixed 11 = .ok (.getfield 20, 3) := by decide +kernel
theorem dX10_comeFixed_14 : decode cX10_comeFixed 14 = .ok (.iload_n 1, 1) := by decide +kernel
theorem dX10_comeFixed_15 : decode cX10_comeFixed 15 = .ok (.iaload, 1) := by decide +kernel
theorem dX10_comeFixed_16 : decode cX10_comeFixed 16 = .ok (.goto 9, 3) := by decide +kernel
theorem dX10_comeFixed_19 : decode cX10_comeFixed 19 = .ok (.aload_n 0, 1) := by decide +kernel
theorem dX10_comeFixed_20 : decode cX10_comeFixed 20 = .ok (.getfield 23, 3) := by decide +kernel
theorem dX10_comeFixed_23 : decode cX10_comeFixed 23 = .ok (.iload_n 1, 1) := by decide +kernel
theorem dX10_comeFixed_24 : decode cX10_comeFixed 24 = .ok (.iaload, 1) := by decide +kernel
theorem dX10_comeFixed_25 : decode cX10_comeFixed 25 = .ok (.istore 6, 2) := by decide +kernel
theorem dX10_comeFixed_27 : decode cX10_comeFixed 27 = .ok (.iload_n 3, 1) := by decide +kernel
theorem dX10_comeFixed_28 : decode cX10_comeFixed 28 = .ok (.aload_n 0, 1) := by decide +kernel
theorem dX10_comeFixed_29 : decode cX10_comeFixed 29 = .ok (.getfield 20, 3) := by decide +kernel
theorem dX10_comeFixed_32 : decode cX10_comeFixed 32 = .ok (.iload_n 1, 1) := by decide +kernel
theorem dX10_comeFixed_33 : decode cX10_comeFixed 33 = .ok (.iaload, 1) := by decide +kernel
theorem dX10_comeFixed_34 : decode cX10_comeFixed 34 = .ok (.isub, 1) := by decide +kernel
theorem dX10_comeFixed_35 : decode cX10_comeFixed 35 = .ok (.iload 6, 2) := by decide +kernel
theorem dX10_comeFixed_37 : decode cX10_comeFixed 37 = .ok (.invokestatic 176, 3) := by decide +kernel
theorem dX10_comeFixed_40 : decode cX10_comeFixed 40 = .ok (.iload 6, 2) := by decide +kernel
theorem dX10_comeFixed_42 : decode cX10_comeFixed 42 = .ok (.imul, 1) := by decide +kernel
theorem dX10_comeFixed_43 : decode cX10_comeFixed 43 = .ok (.iload 6, 2) := by decide +kernel
theorem dX10_comeFixed_45 : decode cX10_comeFixed 45 = .ok (.iadd, 1) := by decide +kernel
theorem dX10_comeFixed_46 : decode cX10_comeFixed 46 = .ok (.istore 7, 2) := by decide +kernel
theorem dX10_comeFixed_48 : decode cX10_comeFixed 48 = .ok (.iload 7, 2) := by decide +kernel
theorem dX10_comeFixed_50 : decode cX10_comeFixed 50 = .ok (.istore 8, 2) := by decide +kernel
theorem dX10_comeFixed_52 : decode cX10_comeFixed 52 = .ok (.iload 8, 2) := by decide +kernel
theorem dX10_comeFixed_54 : decode cX10_comeFixed 54 = .ok (.iload_n 3, 1) := by decide +kernel
theorem dX10_comeFixed_55 : decode cX10_comeFixed 55 = .ok (.if_icmp .gt 170, 3) := by decide +kernel
theorem dX10_comeFixed_58 : decode cX10_comeFixed 58 = .ok (.iload 8, 2) := by decide +kernel
theorem dX10_comeFixed_60 : decode cX10_comeFixed 60 = .ok (.aload_n 0, 1) := by decide +kernel
theorem dX10_comeFixed_61 : decode cX10_comeFixed 61 = .ok (.getfield 20, 3) := by decide +kernel
theorem dX10_comeFixed_64 : decode cX10_comeFixed 64 = .ok (.iload_n 1, 1) := by decide +kernel
theorem dX10_comeFixed_65 : decode cX10_comeFixed 65 = .ok (.iaload, 1) := by decide +kernel
theorem dX10_comeFixed_66 : decode cX10_comeFixed 66 = .ok (.iadd, 1) := by decide +kernel
theorem dX10_comeFixed_67 : decode cX10_comeFixed 67 = .ok (.istore 9, 2) := by decide +kernel
theorem dX10_comeFixed_69 : decode cX10_comeFixed 69 = .ok (.aload_n 0, 1) := by decide +kernel
theorem dX10_comeFixed_70 : decode cX10_comeFixed 70 = .ok (.getfield 26, 3) := by decide +kernel
theorem dX10_comeFixed_73 : decode cX10_comeFixed 73 = .ok (.iload_n 1, 1) := by decide +kernel
theorem dX10_comeFixed_74 : decode cX10_comeFixed 74 = .ok (.iaload, 1) := by decide +kernel
theorem dX10_comeFixed_75 : decode cX10_comeFixed 75 = .ok (.iload 9, 2) := by decide +kernel
theorem dX10_comeFixed_77 : decode cX10_comeFixed 77 = .ok (.aload_n 0, 1) := by decide +kernel
theorem dX10_comeFixed_78 : decode cX10_comeFixed 78 = .ok (.getfield 47, 3) := by decide +kernel
theorem dX10_comeFixed_81 : decode cX10_comeFixed 81 = .ok (.iload_n 1, 1) := by decide +kernel
theorem dX10_comeFixed_82 : decode cX10_comeFixed 82 = .ok (.iaload, 1) := by decide +kernel
theorem dX10_comeFixed_83 : decode cX10_comeFixed 83 = .ok (.iadd, 1) := by decide +kernel
theorem dX10_comeFixed_84 : decode cX10_comeFixed 84 = .ok (.if_icmp .lt 16, 3) := by decide +kernel
theorem dX10_comeFixed_87 : decode cX10_comeFixed 87 = .ok (.aload_n 0, 1) := by decide +kernel
theorem dX10_comeFixed_88 : decode cX10_comeFixed 88 = .ok (.getfield 41, 3) := by decide +kernel
theorem dX10_comeFixed_91 : decode cX10_comeFixed 91 = .ok (.iload_n 1, 1) := by decide +kernel
theorem dX10_comeFixed_92 : decode cX10_comeFixed 92 = .ok (.dup2, 1) := by decide +kernel
theorem dX10_comeFixed_93 : decode cX10_comeFixed 93 = .ok (.iaload, 1) := by decide +kernel
theorem dX10_comeFixed_94 : decode cX10_comeFixed 94 = .ok (.iconst 1, 1) := by decide +kernel
theorem dX10_comeFixed_95 : decode cX10_comeFixed 95 = .ok (.iadd, 1) := by decide +kernel
theorem dX10_comeFixed_96 : decode cX10_comeFixed 96 = .ok (.iastore, 1) := by decide +kernel
theorem dX10_comeFixed_97 : decode cX10_comeFixed 97 = .ok (.goto 118, 3) := by decide +kernel
theorem dX10_comeFixed_100 : decode cX10_comeFixed 100 = .ok (.iconst (-1), 1) := by decide +kernel
theorem dX10_comeFixed_101 : decode cX10_comeFixed 101 = .ok (.istore 10, 2) := by decide +kernel
theorem dX10_comeFixed_103 : decode cX10_comeFixed 103 = .ok (.iconst 0, 1) := by decide +kernel
theorem dX10_comeFixed_104 : decode cX10_comeFixed 104 = .ok (.istore 11, 2) := by decide +kernel
theorem dX10_comeFixed_106 : decode cX10_comeFixed 106 = .ok (.iload 11, 2) := by decide +kernel
theorem dX10_comeFixed_108 : decode cX10_comeFixed 108 = .ok (.aload_n 0, 1) := by decide +kernel
theorem dX10_comeFixed_109 : decode cX10_comeFixed 109 = .ok (.getfield 170, 3) := by decide +kernel
theorem dX10_comeFixed_112 : decode cX10_comeFixed 112 = .ok (.if_icmp .ge 52, 3) := by decide +kernel
theorem dX10_comeFixed_115 : decode cX10_comeFixed 115 = .ok (.aload_n 0, 1) := by decide +kernel
theorem dX10_comeFixed_116 : decode cX10_comeFixed 116 = .ok (.getfield 67, 3) := by decide +kernel
theorem dX10_comeFixed_119 : decode cX10_comeFixed 119 = .ok (.iload 11, 2) := by decide +kernel
theorem dX10_comeFixed_121 : decode cX10_comeFixed 121 = .ok (.iaload, 1) := by decide +kernel
theorem dX10_comeFixed_122 : decode cX10_comeFixed 122 = .ok (.iload_n 1, 1) := by decide +kernel
theorem dX10_comeFixed_123 : decode cX10_comeFixed 123 = .ok (.if_icmp .ne 31, 3) := by decide +kernel
theorem dX10_comeFixed_126 : decode cX10_comeFixed 126 = .ok (.aload_n 0, 1) := by decide +kernel
theorem dX10_comeFixed_127 : decode cX10_comeFixed 127 = .ok (.getfield 70, 3) := by decide +kernel
theorem dX10_comeFixed_130 : decode cX10_comeFixed 130 = .ok (.iload 11, 2) := by decide +kernel
theorem dX10_comeFixed_132 : decode cX10_comeFixed 132 = .ok (.iaload, 1) := by decide +kernel
theorem dX10_comeFixed_133 : decode cX10_comeFixed 133 = .ok (.iload_n 2, 1) := by decide +kernel
theorem dX10_comeFixed_134 : decode cX10_comeFixed 134 = .ok (.if_icmp .ne 20, 3) := by decide +kernel
theorem dX10_comeFixed_137 : decode cX10_comeFixed 137 = .ok (.aload_n 0, 1) := by decide +kernel
theorem dX10_comeFixed_138 : decode cX10_comeFixed 138 = .ok (.getfield 73, 3) := by decide +kernel
theorem dX10_comeFixed_141 : decode cX10_comeFixed 141 = .ok (.iload 11, 2) := by decide +kernel
theorem dX10_comeFixed_143 : decode cX10_comeFixed 143 = .ok (.iaload, 1) := by decide +kernel
theorem dX10_comeFixed_144 : decode cX10_comeFixed 144 = .ok (.iload 8, 2) := by decide +kernel
theorem dX10_comeFixed_146 : decode cX10_comeFixed 146 = .ok (.if_icmp .ne 8, 3) := by decide +kernel
theorem dX10_comeFixed_149 : decode cX10_comeFixed 149 = .ok (.iload 11, 2) := by decide +kernel
theorem dX10_comeFixed_151 : decode cX10_comeFixed 151 = .ok (.goto 5, 3) := by decide +kernel
theorem dX10_comeFixed_154 : decode cX10_comeFixed 154 = .ok (.iload 10, 2) := by decide +kernel
theorem dX10_comeFixed_156 : decode cX10_comeFixed 156 = .ok (.istore 10, 2) := by decide +kernel
theorem dX10_comeFixed_158 : decode cX10_comeFixed 158 = .ok (.iinc 11 1, 3) := by decide +kernel
theorem dX10_comeFixed_161 : decode cX10_comeFixed 161 = .ok (.goto (-55), 3) := by decide +kernel
theorem dX10_comeFixed_164 : decode cX10_comeFixed 164 = .ok (.iload 10, 2) := by decide +kernel
theorem dX10_comeFixed_166 : decode cX10_comeFixed 166 = .ok (.ifCond .ge 15, 3) := by decide +kernel
theorem dX10_comeFixed_169 : decode cX10_comeFixed 169 = .ok (.aload_n 0, 1) := by decide +kernel
theorem dX10_comeFixed_170 : decode cX10_comeFixed 170 = .ok (.iload_n 1, 1) := by decide +kernel
theorem dX10_comeFixed_171 : decode cX10_comeFixed 171 = .ok (.iload_n 2, 1) := by decide +kernel
theorem dX10_comeFixed_172 : decode cX10_comeFixed 172 = .ok (.iload 8, 2) := by decide +kernel
theorem dX10_comeFixed_174 : decode cX10_comeFixed 174 = .ok (.iload 9, 2) := by decide +kernel
theorem dX10_comeFixed_176 : decode cX10_comeFixed 176 = .ok (.invokevirtual 182, 3) := by decide +kernel
theorem dX10_comeFixed_179 : decode cX10_comeFixed 179 = .ok (.istore 10, 2) := by decide +kernel
theorem dX10_comeFixed_181 : decode cX10_comeFixed 181 = .ok (.aload_n 0, 1) := by decide +kernel
theorem dX10_comeFixed_182 : decode cX10_comeFixed 182 = .ok (.iload 10, 2) := by decide +kernel
theorem dX10_comeFixed_184 : decode cX10_comeFixed 184 = .ok (.lload 4, 2) := by decide +kernel
theorem dX10_comeFixed_186 : decode cX10_comeFixed 186 = .ok (.invokevirtual 186, 3) := by decide +kernel
theorem dX10_comeFixed_189 : decode cX10_comeFixed 189 = .ok (.aload_n 0, 1) := by decide +kernel
theorem dX10_comeFixed_190 : decode cX10_comeFixed 190 = .ok (.getfield 26, 3) := by decide +kernel
theorem dX10_comeFixed_193 : decode cX10_comeFixed 193 = .ok (.iload_n 1, 1) := by decide +kernel
theorem dX10_comeFixed_194 : decode cX10_comeFixed 194 = .ok (.iaload, 1) := by decide +kernel
theorem dX10_comeFixed_195 : decode cX10_comeFixed 195 = .ok (.iload 9, 2) := by decide +kernel
theorem dX10_comeFixed_197 : decode cX10_comeFixed 197 = .ok (.if_icmp .ge 12, 3) := by decide +kernel
theorem dX10_comeFixed_200 : decode cX10_comeFixed 200 = .ok (.aload_n 0, 1) := by decide +kernel
theorem dX10_comeFixed_201 : decode cX10_comeFixed 201 = .ok (.iload 10, 2) := by decide +kernel
theorem dX10_comeFixed_203 : decode cX10_comeFixed 203 = .ok (.invokevirtual 190, 3) := by decide +kernel
theorem dX10_comeFixed_206 : decode cX10_comeFixed 206 = .ok (.ifCond .eq 9, 3) := by decide +kernel
theorem dX10_comeFixed_209 : decode cX10_comeFixed 209 = .ok (.aload_n 0, 1) := by decide +kernel
theorem dX10_comeFixed_210 : decode cX10_comeFixed 210 = .ok (.iload 10, 2) := by decide +kernel
theorem dX10_comeFixed_212 : decode cX10_comeFixed 212 = .ok (.invokevirtual 193, 3) := by decide +kernel
theorem dX10_comeFixed_215 : decode cX10_comeFixed 215 = .ok (.iload 8, 2) := by decide +kernel
theorem dX10_comeFixed_217 : decode cX10_comeFixed 217 = .ok (.iload 6, 2) := by decide +kernel
theorem dX10_comeFixed_219 : decode cX10_comeFixed 219 = .ok (.iadd, 1) := by decide +kernel
theorem dX10_comeFixed_220 : decode cX10_comeFixed 220 = .ok (.istore 8, 2) := by decide +kernel
theorem dX10_comeFixed_222 : decode cX10_comeFixed 222 = .ok (.goto (-170), 3) := by decide +kernel
theorem dX10_comeFixed_225 : decode cX10_comeFixed 225 = .ok (.return_, 1) := by decide +kernel
theorem dX10_comeSession_0 : decode cX10_comeSession 0 = .ok (.iload_n 3, 1) := by decide +kernel
theorem dX10_comeSession_1 : decode cX10_comeSession 1 = .ok (.aload_n 0, 1) := by decide +kernel
theorem dX10_comeSession_2 : decode cX10_comeSession 2 = .ok (.getfield 20, 3) := by decide +kernel
theorem dX10_comeSession_5 : decode cX10_comeSession 5 = .ok (.iload_n 1, 1) := by decide +kernel
theorem dX10_comeSession_6 : decode cX10_comeSession 6 = .ok (.iaload, 1) := by decide +kernel
theorem dX10_comeSession_7 : decode cX10_comeSession 7 = .ok (.iadd, 1) := by decide +kernel
theorem dX10_comeSession_8 : decode cX10_comeSession 8 = .ok (.iconst 1, 1) := by decide +kernel
theorem dX10_comeSession_9 : decode cX10_comeSession 9 = .ok (.iadd, 1) := by decide +kernel
theorem dX10_comeSession_10 : decode cX10_comeSession 10 = .ok (.aload_n 0, 1) := by decide +kernel
theorem dX10_comeSession_11 : decode cX10_comeSession 11 = .ok (.getfield 47, 3) := by decide +kernel
theorem dX10_comeSession_14 : decode cX10_comeSession 14 = .ok (.iload_n 1, 1) := by decide +kernel
theorem dX10_comeSession_15 : decode cX10_comeSession 15 = .ok (.iaload, 1) := by decide +kernel
theorem dX10_comeSession_16 : decode cX10_comeSession 16 = .ok (.iadd, 1) := by decide +kernel
theorem dX10_comeSession_17 : decode cX10_comeSession 17 = .ok (.aload_n 0, 1) := by decide +kernel
theorem dX10_comeSession_18 : decode cX10_comeSession 18 = .ok (.getfield 26, 3) := by decide +kernel
theorem dX10_comeSession_21 : decode cX10_comeSession 21 = .ok (.iload_n 1, 1) := by decide +kernel
theorem dX10_comeSession_22 : decode cX10_comeSession 22 = .ok (.iaload, 1) := by decide +kernel
theorem dX10_comeSession_23 : decode cX10_comeSession 23 = .ok (.if_icmp .gt 14, 3) := by decide +kernel
theorem dX10_comeSession_26 : decode cX10_comeSession 26 = .ok (.aload_n 0, 1) := by decide +kernel
theorem dX10_comeSession_27 : decode cX10_comeSession 27 = .ok (.getfield 41, 3) := by decide +kernel
theorem dX10_comeSession_30 : decode cX10_comeSession 30 = .ok (.iload_n 1, 1) := by decide +kernel
theorem dX10_comeSession_31 : decode cX10_comeSession 31 = .ok (.dup2, 1) := by decide +kernel
theorem dX10_comeSession_32 : decode cX10_comeSession 32 = .ok (.iaload, 1) := by decide +kernel
theorem dX10_comeSession_33 : decode cX10_comeSession 33 = .ok (.iconst 1, 1) := by decide +kernel
theorem dX10_comeSession_34 : decode cX10_comeSession 34 = .ok (.iadd, 1) := by decide +kernel
theorem dX10_comeSession_35 : decode cX10_comeSession 35 = .ok (.iastore, 1) := by decide +kernel
theorem dX10_comeSession_36 : decode cX10_comeSession 36 = .ok (.return_, 1) := by decide +kernel
theorem dX10_comeSession_37 : decode cX10_comeSession 37 = .ok (.iconst 0, 1) := by decide +kernel
theorem dX10_comeSession_38 : decode cX10_comeSession 38 = .ok (.istore 6, 2) := by decide +kernel
theorem dX10_comeSession_40 : decode cX10_comeSession 40 = .ok (.iconst 0, 1) := by decide +kernel
theorem dX10_comeSession_41 : decode cX10_comeSession 41 = .ok (.istore 7, 2) := by decide +kernel
theorem dX10_comeSession_43 : decode cX10_comeSession 43 = .ok (.iload 7, 2) := by decide +kernel
theorem dX10_comeSession_45 : decode cX10_comeSession 45 = .ok (.aload_n 0, 1) := by decide +kernel
theorem dX10_comeSession_46 : decode cX10_comeSession 46 = .ok (.getfield 170, 3) := by decide +kernel
theorem dX10_comeSession_49 : decode cX10_comeSession 49 = .ok (.if_icmp .ge 151, 3) := by decide +kernel
theorem dX10_comeSession_52 : decode cX10_comeSession 52 = .ok (.aload_n 0, 1) := by decide +kernel
theorem dX10_comeSession_53 : decode cX10_comeSession 53 = .ok (.getfield 67, 3) := by decide +kernel
theorem dX10_comeSession_56 : decode cX10_comeSession 56 = .ok (.iload 7, 2) := by decide +kernel
theorem dX10_comeSession_58 : decode cX10_comeSession 58 = .ok (.iaload, 1) := by decide +kernel
theorem dX10_comeSession_59 : decode cX10_comeSession 59 = .ok (.iload_n 1, 1) := by decide +kernel
theorem dX10_comeSession_60 : decode cX10_comeSession 60 = .ok (.if_icmp .ne 59, 3) := by decide +kernel
theorem dX10_comeSession_63 : decode cX10_comeSession 63 = .ok (.aload_n 0, 1) := by decide +kernel
theorem dX10_comeSession_64 : decode cX10_comeSession 64 = .ok (.getfield 79, 3) := by decide +kernel
theorem dX10_comeSession_67 : decode cX10_comeSession 67 = .ok (.iload 7, 2) := by decide +kernel
theorem dX10_comeSession_69 : decode cX10_comeSession 69 = .ok (.baload, 1) := by decide +kernel
theorem dX10_comeSession_70 : decode cX10_comeSession 70 = .ok (.ifCond .eq 49, 3) := by decide +kernel
theorem dX10_comeSession_73 : decode cX10_comeSession 73 = .ok (.aload_n 0, 1) := by decide +kernel
theorem dX10_comeSession_74 : decode cX10_comeSession 74 = .ok (.getfield 70, 3) := by decide +kernel
theorem dX10_comeSession_77 : decode cX10_comeSession 77 = .ok (.iload 7, 2) := by decide +kernel
theorem dX10_comeSession_79 : decode cX10_comeSession 79 = .ok (.iaload, 1) := by decide +kernel
theorem dX10_comeSession_80 : decode cX10_comeSession 80 = .ok (.iload_n 2, 1) := by decide +kernel
theorem dX10_comeSession_81 : decode cX10_comeSession 81 = .ok (.if_icmp .ne 38, 3) := by decide +kernel
theorem dX10_comeSession_84 : decode cX10_comeSession 84 = .ok (.aload_n 0, 1) := by decide +kernel
theorem dX10_comeSession_85 : decode cX10_comeSession 85 = .ok (.getfield 73, 3) := by decide +kernel
theorem dX10_comeSession_88 : decode cX10_comeSession 88 = .ok (.iload 7, 2) := by decide +kernel
theorem dX10_comeSession_90 : decode cX10_comeSession 90 = .ok (.iaload, 1) := by decide +kernel
theorem dX10_comeSession_91 : decode cX10_comeSession 91 = .ok (.aload_n 0, 1) := by decide +kernel
theorem dX10_comeSession_92 : decode cX10_comeSession 92 = .ok (.getfield 20, 3) := by decide +kernel
theorem dX10_comeSession_95 : decode cX10_comeSession 95 = .ok (.iload_n 1, 1) := by decide +kernel
theorem dX10_comeSession_96 : decode cX10_comeSession 96 = .ok (.iaload, 1) := by decide +kernel
theorem dX10_comeSession_97 : decode cX10_comeSession 97 = .ok (.isub, 1) := by decide +kernel
theorem dX10_comeSession_98 : decode cX10_comeSession 98 = .ok (.iload_n 3, 1) := by decide +kernel
theorem dX10_comeSession_99 : decode cX10_comeSession 99 = .ok (.if_icmp .gt 20, 3) := by decide +kernel
theorem dX10_comeSession_102 : decode cX10_comeSession 102 = .ok (.iload_n 3, 1) := by decide +kernel
theorem dX10_comeSession_103 : decode cX10_comeSession 103 = .ok (.aload_n 0, 1) := by decide +kernel
theorem dX10_comeSession_104 : decode cX10_comeSession 104 = .ok (.getfield 76, 3) := by decide +kernel
theorem dX10_comeSession_107 : decode cX10_comeSession 107 = .ok (.iload 7, 2) := by decide +kernel
theorem dX10_comeSession_109 : decode cX10_comeSession 109 = .ok (.iaload, 1) := by decide +kernel
theorem dX10_comeSession_110 : decode cX10_comeSession 110 = .ok (.iconst 1, 1) := by decide +kernel
theorem dX10_comeSession_111 : decode cX10_comeSession 111 = .ok (.isub, 1) := by decide +kernel
theorem dX10_comeSession_112 : decode cX10_comeSession 112 = .ok (.if_icmp .gt 7, 3) := by decide +kernel
theorem dX10_comeSession_115 : decode cX10_comeSession 115 = .ok (.iconst 1, 1) := by decide +kernel
theorem dX10_comeSession_116 : decode cX10_comeSession 116 = .ok (.goto 4, 3) := by decide +kernel
theorem dX10_comeSession_119 : decode cX10_comeSession 119 = .ok (.iconst 0, 1) := by decide +kernel
theorem dX10_comeSession_120 : decode cX10_comeSession 120 = .ok (.istore 8, 2) := by decide +kernel
theorem dX10_comeSession_122 : decode cX10_comeSession 122 = .ok (.iload 8, 2) := by decide +kernel
theorem dX10_comeSession_124 : decode cX10_comeSession 124 = .ok (.ifCond .eq 70, 3) := by decide +kernel
theorem dX10_comeSession_127 : decode cX10_comeSession 127 = .ok (.iload 6, 2) := by decide +kernel
theorem dX10_comeSession_129 : decode cX10_comeSession 129 = .ok (.istore 9, 2) := by decide +kernel
theorem dX10_comeSession_131 : decode cX10_comeSession 131 = .ok (.iload 9, 2) := by decide +kernel
theorem dX10_comeSession_133 : decode cX10_comeSession 133 = .ok (.ifCond .le 49, 3) := by decide +kernel
theorem dX10_comeSession_136 : decode cX10_comeSession 136 = .ok (.aload_n 0, 1) := by decide +kernel
theorem dX10_comeSession_137 : decode cX10_comeSession 137 = .ok (.getfield 73, 3) := by decide +kernel
theorem dX10_comeSession_140 : decode cX10_comeSession 140 = .ok (.aload_n 0, 1) := by decide +kernel
theorem dX10_comeSession_141 : decode cX10_comeSession 141 = .ok (.getfield 119, 3) := by decide +kernel
theorem dX10_comeSession_144 : decode cX10_comeSession 144 = .ok (.iload 9, 2) := by decide +kernel
theorem dX10_comeSession_146 : decode cX10_comeSession 146 = .ok (.iconst 1, 1) := by decide +kernel
theorem dX10_comeSession_147 : decode cX10_comeSession 147 = .ok (.isub, 1) := by decide +kernel
theorem dX10_comeSession_148 : decode cX10_comeSession 148 = .ok (.iaload, 1) := by decide +kernel
theorem dX10_comeSession_149 : decode cX10_comeSession 149 = .ok (.iaload, 1) := by decide +kernel
theorem dX10_comeSession_150 : decode cX10_comeSession 150 = .ok (.aload_n 0, 1) := by decide +kernel
theorem dX10_comeSession_151 : decode cX10_comeSession 151 = .ok (.getfield 73, 3) := by decide +kernel
theorem dX10_comeSession_154 : decode cX10_comeSession 154 = .ok (.iload 7, 2) := by decide +kernel
theorem dX10_comeSession_156 : decode cX10_comeSession 156 = .ok (.iaload, 1) := by decide +kernel
theorem dX10_comeSession_157 : decode cX10_comeSession 157 = .ok (.if_icmp .le 25, 3) := by decide +kernel
