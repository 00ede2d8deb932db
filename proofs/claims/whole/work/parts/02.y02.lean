theorem dX9_mark_11 : decode cX9_mark 11 = .ok (.iconst 0, 1) := by decide +kernel
theorem dX9_mark_12 : decode cX9_mark 12 = .ok (.ldc 113, 2) := by decide +kernel
theorem dX9_mark_14 : decode cX9_mark 14 = .ok (.invokestatic 82, 3) := by decide +kernel
theorem dX9_mark_17 : decode cX9_mark 17 = .ok (.ifCond .ne 5, 3) := by decide +kernel
theorem dX9_mark_20 : decode cX9_mark 20 = .ok (.iconst (-1), 1) := by decide +kernel
theorem dX9_mark_21 : decode cX9_mark 21 = .ok (.ireturn, 1) := by decide +kernel
theorem dX9_mark_22 : decode cX9_mark 22 = .ok (.iload_n 2, 1) := by decide +kernel
theorem dX9_mark_23 : decode cX9_mark 23 = .ok (.aload_n 3, 1) := by decide +kernel
theorem dX9_mark_24 : decode cX9_mark 24 = .ok (.getfield 114, 3) := by decide +kernel
theorem dX9_mark_27 : decode cX9_mark 27 = .ok (.if_icmp .ge 6, 3) := by decide +kernel
theorem dX9_mark_30 : decode cX9_mark 30 = .ok (.bipush (-5), 2) := by decide +kernel
theorem dX9_mark_32 : decode cX9_mark 32 = .ok (.ireturn, 1) := by decide +kernel
theorem dX9_mark_33 : decode cX9_mark 33 = .ok (.aload_n 3, 1) := by decide +kernel
theorem dX9_mark_34 : decode cX9_mark 34 = .ok (.iload_n 2, 1) := by decide +kernel
theorem dX9_mark_35 : decode cX9_mark 35 = .ok (.putfield 114, 3) := by decide +kernel
theorem dX9_mark_38 : decode cX9_mark 38 = .ok (.aload_n 0, 1) := by decide +kernel
theorem dX9_mark_39 : decode cX9_mark 39 = .ok (.invokevirtual 73, 3) := by decide +kernel
theorem dX9_mark_42 : decode cX9_mark 42 = .ok (.aload_n 0, 1) := by decide +kernel
theorem dX9_mark_43 : decode cX9_mark 43 = .ok (.getfield 28, 3) := by decide +kernel
theorem dX9_mark_46 : decode cX9_mark 46 = .ok (.getfield 105, 3) := by decide +kernel
theorem dX9_mark_49 : decode cX9_mark 49 = .ok (.ireturn, 1) := by decide +kernel
theorem dX9_idle_0 : decode cX9_idle 0 = .ok (.aload_n 0, 1) := by decide +kernel
theorem dX9_idle_1 : decode cX9_idle 1 = .ok (.iload_n 1, 1) := by decide +kernel
theorem dX9_idle_2 : decode cX9_idle 2 = .ok (.invokevirtual 110, 3) := by decide +kernel
theorem dX9_idle_5 : decode cX9_idle 5 = .ok (.astore_n 3, 1) := by decide +kernel
theorem dX9_idle_6 : decode cX9_idle 6 = .ok (.aload_n 3, 1) := by decide +kernel
theorem dX9_idle_7 : decode cX9_idle 7 = .ok (.ifnull 12, 3) := by decide +kernel
theorem dX9_idle_10 : decode cX9_idle 10 = .ok (.iload_n 2, 1) := by decide +kernel
theorem dX9_idle_11 : decode cX9_idle 11 = .ok (.iconst 0, 1) := by decide +kernel
theorem dX9_idle_12 : decode cX9_idle 12 = .ok (.iconst 1, 1) := by decide +kernel
theorem dX9_idle_13 : decode cX9_idle 13 = .ok (.invokestatic 82, 3) := by decide +kernel
theorem dX9_idle_16 : decode cX9_idle 16 = .ok (.ifCond .ne 5, 3) := by decide +kernel
theorem dX9_idle_19 : decode cX9_idle 19 = .ok (.iconst (-1), 1) := by decide +kernel
theorem dX9_idle_20 : decode cX9_idle 20 = .ok (.ireturn, 1) := by decide +kernel
theorem dX9_idle_21 : decode cX9_idle 21 = .ok (.aload_n 3, 1) := by decide +kernel
theorem dX9_idle_22 : decode cX9_idle 22 = .ok (.getfield 117, 3) := by decide +kernel
theorem dX9_idle_25 : decode cX9_idle 25 = .ok (.ifCond .eq 7, 3) := by decide +kernel
theorem dX9_idle_28 : decode cX9_idle 28 = .ok (.iconst 1, 1) := by decide +kernel
theorem dX9_idle_29 : decode cX9_idle 29 = .ok (.goto 4, 3) := by decide +kernel
theorem dX9_idle_32 : decode cX9_idle 32 = .ok (.iconst 0, 1) := by decide +kernel
theorem dX9_idle_33 : decode cX9_idle 33 = .ok (.istore 4, 2) := by decide +kernel
theorem dX9_idle_35 : decode cX9_idle 35 = .ok (.aload_n 3, 1) := by decide +kernel
theorem dX9_idle_36 : decode cX9_idle 36 = .ok (.iload_n 2, 1) := by decide +kernel
theorem dX9_idle_37 : decode cX9_idle 37 = .ok (.iconst 1, 1) := by decide +kernel
theorem dX9_idle_38 : decode cX9_idle 38 = .ok (.if_icmp .ne 7, 3) := by decide +kernel
theorem dX9_idle_41 : decode cX9_idle 41 = .ok (.iconst 1, 1) := by decide +kernel
theorem dX9_idle_42 : decode cX9_idle 42 = .ok (.goto 4, 3) := by decide +kernel
theorem dX9_idle_45 : decode cX9_idle 45 = .ok (.iconst 0, 1) := by decide +kernel
theorem dX9_idle_46 : decode cX9_idle 46 = .ok (.putfield 117, 3) := by decide +kernel
theorem dX9_idle_49 : decode cX9_idle 49 = .ok (.aload_n 0, 1) := by decide +kernel
theorem dX9_idle_50 : decode cX9_idle 50 = .ok (.invokevirtual 73, 3) := by decide +kernel
theorem dX9_idle_53 : decode cX9_idle 53 = .ok (.iload 4, 2) := by decide +kernel
theorem dX9_idle_55 : decode cX9_idle 55 = .ok (.ireturn, 1) := by decide +kernel
theorem dX9_rows_0 : decode cX9_rows 0 = .ok (.aload_n 0, 1) := by decide +kernel
theorem dX9_rows_1 : decode cX9_rows 1 = .ok (.getfield 28, 3) := by decide +kernel
theorem dX9_rows_4 : decode cX9_rows 4 = .ok (.getfield 105, 3) := by decide +kernel
theorem dX9_rows_7 : decode cX9_rows 7 = .ok (.ireturn, 1) := by decide +kernel
theorem dX9_row_0 : decode cX9_row 0 = .ok (.aload_n 0, 1) := by decide +kernel
theorem dX9_row_1 : decode cX9_row 1 = .ok (.getfield 28, 3) := by decide +kernel
theorem dX9_row_4 : decode cX9_row 4 = .ok (.iload_n 1, 1) := by decide +kernel
theorem dX9_row_5 : decode cX9_row 5 = .ok (.invokevirtual 121, 3) := by decide +kernel
theorem dX9_row_8 : decode cX9_row 8 = .ok (.ifCond .ne 5, 3) := by decide +kernel
theorem dX9_row_11 : decode cX9_row 11 = .ok (.iconst (-1), 1) := by decide +kernel
theorem dX9_row_12 : decode cX9_row 12 = .ok (.ireturn, 1) := by decide +kernel
theorem dX9_row_13 : decode cX9_row 13 = .ok (.aload_n 0, 1) := by decide +kernel
theorem dX9_row_14 : decode cX9_row 14 = .ok (.getfield 28, 3) := by decide +kernel
theorem dX9_row_17 : decode cX9_row 17 = .ok (.iload_n 1, 1) := by decide +kernel
theorem dX9_row_18 : decode cX9_row 18 = .ok (.invokevirtual 124, 3) := by decide +kernel
theorem dX9_row_21 : decode cX9_row 21 = .ok (.lstore_n 3, 1) := by decide +kernel
theorem dX9_row_22 : decode cX9_row 22 = .ok (.lload_n 3, 1) := by decide +kernel
theorem dX9_row_23 : decode cX9_row 23 = .ok (.invokestatic 128, 3) := by decide +kernel
theorem dX9_row_26 : decode cX9_row 26 = .ok (.lstore 5, 2) := by decide +kernel
theorem dX9_row_28 : decode cX9_row 28 = .ok (.iload_n 2, 1) := by decide +kernel
theorem dX9_row_29 : decode cX9_row 29 = .ok (.tableswitch 71 0 4 #[35, 48, 53, 59, 65], 35) := by decide +kernel
theorem dX9_row_64 : decode cX9_row 64 = .ok (.lload_n 3, 1) := by decide +kernel
theorem dX9_row_65 : decode cX9_row 65 = .ok (.invokestatic 134, 3) := by decide +kernel
theorem dX9_row_68 : decode cX9_row 68 = .ok (.ifCond .eq 7, 3) := by decide +kernel
theorem dX9_row_71 : decode cX9_row 71 = .ok (.iconst 1, 1) := by decide +kernel
theorem dX9_row_72 : decode cX9_row 72 = .ok (.goto 4, 3) := by decide +kernel
theorem dX9_row_75 : decode cX9_row 75 = .ok (.iconst 0, 1) := by decide +kernel
theorem dX9_row_76 : decode cX9_row 76 = .ok (.ireturn, 1) := by decide +kernel
theorem dX9_row_77 : decode cX9_row 77 = .ok (.lload_n 3, 1) := by decide +kernel
theorem dX9_row_78 : decode cX9_row 78 = .ok (.invokestatic 138, 3) := by decide +kernel
theorem dX9_row_81 : decode cX9_row 81 = .ok (.ireturn, 1) := by decide +kernel
theorem dX9_row_82 : decode cX9_row 82 = .ok (.lload 5, 2) := by decide +kernel
theorem dX9_row_84 : decode cX9_row 84 = .ok (.invokestatic 142, 3) := by decide +kernel
theorem dX9_row_87 : decode cX9_row 87 = .ok (.ireturn, 1) := by decide +kernel
theorem dX9_row_88 : decode cX9_row 88 = .ok (.lload 5, 2) := by decide +kernel
theorem dX9_row_90 : decode cX9_row 90 = .ok (.invokestatic 145, 3) := by decide +kernel
theorem dX9_row_93 : decode cX9_row 93 = .ok (.ireturn, 1) := by decide +kernel
theorem dX9_row_94 : decode cX9_row 94 = .ok (.lload 5, 2) := by decide +kernel
theorem dX9_row_96 : decode cX9_row 96 = .ok (.invokestatic 148, 3) := by decide +kernel
theorem dX9_row_99 : decode cX9_row 99 = .ok (.ireturn, 1) := by decide +kernel
theorem dX9_row_100 : decode cX9_row 100 = .ok (.iconst (-1), 1) := by decide +kernel
theorem dX9_row_101 : decode cX9_row 101 = .ok (.ireturn, 1) := by decide +kernel
theorem dX9_sum_0 : decode cX9_sum 0 = .ok (.aload_n 0, 1) := by decide +kernel
theorem dX9_sum_1 : decode cX9_sum 1 = .ok (.getfield 28, 3) := by decide +kernel
theorem dX9_sum_4 : decode cX9_sum 4 = .ok (.iload_n 1, 1) := by decide +kernel
theorem dX9_sum_5 : decode cX9_sum 5 = .ok (.invokevirtual 151, 3) := by decide +kernel
theorem dX9_sum_8 : decode cX9_sum 8 = .ok (.lreturn, 1) := by decide +kernel
theorem dX9_left_0 : decode cX9_left 0 = .ok (.aload_n 0, 1) := by decide +kernel
theorem dX9_left_1 : decode cX9_left 1 = .ok (.iload_n 1, 1) := by decide +kernel
theorem dX9_left_2 : decode cX9_left 2 = .ok (.invokevirtual 51, 3) := by decide +kernel
theorem dX9_left_5 : decode cX9_left 5 = .ok (.astore_n 2, 1) := by decide +kernel
theorem dX9_left_6 : decode cX9_left 6 = .ok (.aload_n 2, 1) := by decide +kernel
theorem dX9_left_7 : decode cX9_left 7 = .ok (.ifnonnull 5, 3) := by decide +kernel
theorem dX9_left_10 : decode cX9_left 10 = .ok (.iconst (-1), 1) := by decide +kernel
theorem dX9_left_11 : decode cX9_left 11 = .ok (.ireturn, 1) := by decide +kernel
theorem dX9_left_12 : decode cX9_left 12 = .ok (.aload_n 2, 1) := by decide +kernel
theorem dX9_left_13 : decode cX9_left 13 = .ok (.instanceof 41, 3) := by decide +kernel
theorem dX9_left_16 : decode cX9_left 16 = .ok (.ifCond .eq 15, 3) := by decide +kernel
theorem dX9_left_19 : decode cX9_left 19 = .ok (.aload_n 2, 1) := by decide +kernel
theorem dX9_left_20 : decode cX9_left 20 = .ok (.checkcast 41, 3) := by decide +kernel
theorem dX9_left_23 : decode cX9_left 23 = .ok (.astore_n 3, 1) := by decide +kernel
theorem dX9_left_24 : decode cX9_left 24 = .ok (.aload_n 3, 1) := by decide +kernel
theorem dX9_left_25 : decode cX9_left 25 = .ok (.getfield 154, 3) := by decide +kernel
theorem dX9_left_28 : decode cX9_left 28 = .ok (.goto 5, 3) := by decide +kernel
theorem dX9_left_31 : decode cX9_left 31 = .ok (.bipush (-2), 2) := by decide +kernel
theorem dX9_left_33 : decode cX9_left 33 = .ok (.ireturn, 1) := by decide +kernel
theorem dX9_leftRow_0 : decode cX9_leftRow 0 = .ok (.aload_n 0, 1) := by decide +kernel
theorem dX9_leftRow_1 : decode cX9_leftRow 1 = .ok (.iload_n 1, 1) := by decide +kernel
theorem dX9_leftRow_2 : decode cX9_leftRow 2 = .ok (.invokevirtual 51, 3) := by decide +kernel
theorem dX9_leftRow_5 : decode cX9_leftRow 5 = .ok (.astore 4, 2) := by decide +kernel
theorem dX9_leftRow_7 : decode cX9_leftRow 7 = .ok (.aload 4, 2) := by decide +kernel
theorem dX9_leftRow_9 : decode cX9_leftRow 9 = .ok (.instanceof 41, 3) := by decide +kernel
theorem dX9_leftRow_12 : decode cX9_leftRow 12 = .ok (.ifCond .eq 17, 3) := by decide +kernel
theorem dX9_leftRow_15 : decode cX9_leftRow 15 = .ok (.aload 4, 2) := by decide +kernel
theorem dX9_leftRow_17 : decode cX9_leftRow 17 = .ok (.checkcast 41, 3) := by decide +kernel
theorem dX9_leftRow_20 : decode cX9_leftRow 20 = .ok (.astore_n 3, 1) := by decide +kernel
theorem dX9_leftRow_21 : decode cX9_leftRow 21 = .ok (.aload_n 3, 1) := by decide +kernel
theorem dX9_leftRow_22 : decode cX9_leftRow 22 = .ok (.iload_n 2, 1) := by decide +kernel
theorem dX9_leftRow_23 : decode cX9_leftRow 23 = .ok (.invokevirtual 157, 3) := by decide +kernel
theorem dX9_leftRow_26 : decode cX9_leftRow 26 = .ok (.goto 4, 3) := by decide +kernel
theorem dX9_leftRow_29 : decode cX9_leftRow 29 = .ok (.iconst (-1), 1) := by decide +kernel
theorem dX9_leftRow_30 : decode cX9_leftRow 30 = .ok (.ireturn, 1) := by decide +kernel
theorem dX9_about_0 : decode cX9_about 0 = .ok (.aload_n 0, 1) := by decide +kernel
theorem dX9_about_1 : decode cX9_about 1 = .ok (.iload_n 1, 1) := by decide +kernel
theorem dX9_about_2 : decode cX9_about 2 = .ok (.invokevirtual 51, 3) := by decide +kernel
theorem dX9_about_5 : decode cX9_about 5 = .ok (.astore_n 3, 1) := by decide +kernel
theorem dX9_about_6 : decode cX9_about 6 = .ok (.aload_n 3, 1) := by decide +kernel
theorem dX9_about_7 : decode cX9_about 7 = .ok (.ifnonnull 5, 3) := by decide +kernel
theorem dX9_about_10 : decode cX9_about 10 = .ok (.iconst (-1), 1) := by decide +kernel
theorem dX9_about_11 : decode cX9_about 11 = .ok (.ireturn, 1) := by decide +kernel
theorem dX9_about_12 : decode cX9_about 12 = .ok (.iload_n 2, 1) := by decide +kernel
theorem dX9_about_13 : decode cX9_about 13 = .ok (.tableswitch 152 0 7 #[47, 52, 57, 62, 85, 108, 131, 139], 47) := by decide +kernel
theorem dX9_about_60 : decode cX9_about 60 = .ok (.aload_n 3, 1) := by decide +kernel
theorem dX9_about_61 : decode cX9_about 61 = .ok (.getfield 160, 3) := by decide +kernel
theorem dX9_about_64 : decode cX9_about 64 = .ok (.ireturn, 1) := by decide +kernel
theorem dX9_about_65 : decode cX9_about 65 = .ok (.aload_n 3, 1) := by decide +kernel
theorem dX9_about_66 : decode cX9_about 66 = .ok (.getfield 163, 3) := by decide +kernel
theorem dX9_about_69 : decode cX9_about 69 = .ok (.ireturn, 1) := by decide +kernel
theorem dX9_about_70 : decode cX9_about 70 = .ok (.aload_n 3, 1) := by decide +kernel
theorem dX9_about_71 : decode cX9_about 71 = .ok (.getfield 63, 3) := by decide +kernel
theorem dX9_about_74 : decode cX9_about 74 = .ok (.ireturn, 1) := by decide +kernel
theorem dX9_about_75 : decode cX9_about 75 = .ok (.aload_n 3, 1) := by decide +kernel
theorem dX9_about_76 : decode cX9_about 76 = .ok (.instanceof 41, 3) := by decide +kernel
theorem dX9_about_79 : decode cX9_about 79 = .ok (.ifCond .eq 17, 3) := by decide +kernel
theorem dX9_about_82 : decode cX9_about 82 = .ok (.aload_n 3, 1) := by decide +kernel
theorem dX9_about_83 : decode cX9_about 83 = .ok (.checkcast 41, 3) := by decide +kernel
theorem dX9_about_86 : decode cX9_about 86 = .ok (.astore 4, 2) := by decide +kernel
theorem dX9_about_88 : decode cX9_about 88 = .ok (.aload 4, 2) := by decide +kernel
theorem dX9_about_90 : decode cX9_about 90 = .ok (.getfield 164, 3) := by decide +kernel
theorem dX9_about_93 : decode cX9_about 93 = .ok (.goto 4, 3) := by decide +kernel
theorem dX9_about_96 : decode cX9_about 96 = .ok (.iconst 0, 1) := by decide +kernel
theorem dX9_about_97 : decode cX9_about 97 = .ok (.ireturn, 1) := by decide +kernel
theorem dX9_about_98 : decode cX9_about 98 = .ok (.aload_n 3, 1) := by decide +kernel
theorem dX9_about_99 : decode cX9_about 99 = .ok (.instanceof 41, 3) := by decide +kernel
theorem dX9_about_102 : decode cX9_about 102 = .ok (.ifCond .eq 17, 3) := by decide +kernel
theorem dX9_about_105 : decode cX9_about 105 = .ok (.aload_n 3, 1) := by decide +kernel
theorem dX9_about_106 : decode cX9_about 106 = .ok (.checkcast 41, 3) := by decide +kernel
theorem dX9_about_109 : decode cX9_about 109 = .ok (.astore 4, 2) := by decide +kernel
theorem dX9_about_111 : decode cX9_about 111 = .ok (.aload 4, 2) := by decide +kernel
theorem dX9_about_113 : decode cX9_about 113 = .ok (.getfield 167, 3) := by decide +kernel
theorem dX9_about_116 : decode cX9_about 116 = .ok (.goto 4, 3) := by decide +kernel
theorem dX9_about_119 : decode cX9_about 119 = .ok (.iconst 0, 1) := by decide +kernel
theorem dX9_about_120 : decode cX9_about 120 = .ok (.ireturn, 1) := by decide +kernel
theorem dX9_about_121 : decode cX9_about 121 = .ok (.aload_n 3, 1) := by decide +kernel
theorem dX9_about_122 : decode cX9_about 122 = .ok (.instanceof 41, 3) := by decide +kernel
theorem dX9_about_125 : decode cX9_about 125 = .ok (.ifCond .eq 17, 3) := by decide +kernel
theorem dX9_about_128 : decode cX9_about 128 = .ok (.aload_n 3, 1) := by decide +kernel
theorem dX9_about_129 : decode cX9_about 129 = .ok (.checkcast 41, 3) := by decide +kernel
theorem dX9_about_132 : decode cX9_about 132 = .ok (.astore 4, 2) := by decide +kernel
theorem dX9_about_134 : decode cX9_about 134 = .ok (.aload 4, 2) := by decide +kernel
theorem dX9_about_136 : decode cX9_about 136 = .ok (.getfield 170, 3) := by decide +kernel
theorem dX9_about_139 : decode cX9_about 139 = .ok (.goto 4, 3) := by decide +kernel
theorem dX9_about_142 : decode cX9_about 142 = .ok (.iconst 0, 1) := by decide +kernel
theorem dX9_about_143 : decode cX9_about 143 = .ok (.ireturn, 1) := by decide +kernel
theorem dX9_about_144 : decode cX9_about 144 = .ok (.aload_n 3, 1) := by decide +kernel
theorem dX9_about_145 : decode cX9_about 145 = .ok (.getfield 70, 3) := by decide +kernel
theorem dX9_about_148 : decode cX9_about 148 = .ok (.invokestatic 76, 3) := by decide +kernel
theorem dX9_about_151 : decode cX9_about 151 = .ok (.ireturn, 1) := by decide +kernel
theorem dX9_about_152 : decode cX9_about 152 = .ok (.aload_n 3, 1) := by decide +kernel
theorem dX9_about_153 : decode cX9_about 153 = .ok (.getfield 173, 3) := by decide +kernel
theorem dX9_about_156 : decode cX9_about 156 = .ok (.ifCond .eq 7, 3) := by decide +kernel
theorem dX9_about_159 : decode cX9_about 159 = .ok (.iconst 1, 1) := by decide +kernel
theorem dX9_about_160 : decode cX9_about 160 = .ok (.goto 4, 3) := by decide +kernel
theorem dX9_about_163 : decode cX9_about 163 = .ok (.iconst 0, 1) := by decide +kernel
theorem dX9_about_164 : decode cX9_about 164 = .ok (.ireturn, 1) := by decide +kernel
theorem dX9_about_165 : decode cX9_about 165 = .ok (.iconst (-1), 1) := by decide +kernel
theorem dX9_about_166 : decode cX9_about 166 = .ok (.ireturn, 1) := by decide +kernel
theorem dX9_gave_0 : decode cX9_gave 0 = .ok (.aload_n 0, 1) := by decide +kernel
theorem dX9_gave_1 : decode cX9_gave 1 = .ok (.iload_n 1, 1) := by decide +kernel
theorem dX9_gave_2 : decode cX9_gave 2 = .ok (.invokevirtual 51, 3) := by decide +kernel
theorem dX9_gave_5 : decode cX9_gave 5 = .ok (.astore 4, 2) := by decide +kernel
theorem dX9_gave_7 : decode cX9_gave 7 = .ok (.aload 4, 2) := by decide +kernel
theorem dX9_gave_9 : decode cX9_gave 9 = .ok (.instanceof 46, 3) := by decide +kernel
theorem dX9_gave_12 : decode cX9_gave 12 = .ok (.ifCond .eq 16, 3) := by decide +kernel
theorem dX9_gave_15 : decode cX9_gave 15 = .ok (.aload 4, 2) := by decide +kernel
theorem dX9_gave_17 : decode cX9_gave 17 = .ok (.checkcast 46, 3) := by decide +kernel
theorem dX9_gave_20 : decode cX9_gave 20 = .ok (.astore_n 3, 1) := by decide +kernel
theorem dX9_gave_21 : decode cX9_gave 21 = .ok (.aload_n 3, 1) := by decide +kernel
theorem dX9_gave_22 : decode cX9_gave 22 = .ok (.getfield 174, 3) := by decide +kernel
theorem dX9_gave_25 : decode cX9_gave 25 = .ok (.ifCond .ne 5, 3) := by decide +kernel
theorem dX9_gave_28 : decode cX9_gave 28 = .ok (.iconst (-1), 1) := by decide +kernel
theorem dX9_gave_29 : decode cX9_gave 29 = .ok (.ireturn, 1) := by decide +kernel
theorem dX9_gave_30 : decode cX9_gave 30 = .ok (.iload_n 2, 1) := by decide +kernel
theorem dX9_gave_31 : decode cX9_gave 31 = .ok (.lookupswitch 35 #[(0, 25), (1, 30)], 25) := by decide +kernel
theorem dX9_gave_56 : decode cX9_gave 56 = .ok (.aload_n 3, 1) := by decide +kernel
theorem dX9_gave_57 : decode cX9_gave 57 = .ok (.getfield 177, 3) := by decide +kernel
theorem dX9_gave_60 : decode cX9_gave 60 = .ok (.ireturn, 1) := by decide +kernel
theorem dX9_gave_61 : decode cX9_gave 61 = .ok (.aload_n 3, 1) := by decide +kernel
theorem dX9_gave_62 : decode cX9_gave 62 = .ok (.getfield 180, 3) := by decide +kernel
theorem dX9_gave_65 : decode cX9_gave 65 = .ok (.ireturn, 1) := by decide +kernel
theorem dX9_gave_66 : decode cX9_gave 66 = .ok (.iconst (-1), 1) := by decide +kernel
theorem dX9_gave_67 : decode cX9_gave 67 = .ok (.ireturn, 1) := by decide +kernel
theorem dX9_gaveValue_0 : decode cX9_gaveValue 0 = .ok (.aload_n 0, 1) := by decide +kernel
theorem dX9_gaveValue_1 : decode cX9_gaveValue 1 = .ok (.iload_n 1, 1) := by decide +kernel
theorem dX9_gaveValue_2 : decode cX9_gaveValue 2 = .ok (.invokevirtual 51, 3) := by decide +kernel
theorem dX9_gaveValue_5 : decode cX9_gaveValue 5 = .ok (.astore_n 3, 1) := by decide +kernel
theorem dX9_gaveValue_6 : decode cX9_gaveValue 6 = .ok (.aload_n 3, 1) := by decide +kernel
theorem dX9_gaveValue_7 : decode cX9_gaveValue 7 = .ok (.instanceof 46, 3) := by decide +kernel
theorem dX9_gaveValue_10 : decode cX9_gaveValue 10 = .ok (.ifCond .eq 22, 3) := by decide +kernel
theorem dX9_gaveValue_13 : decode cX9_gaveValue 13 = .ok (.aload_n 3, 1) := by decide +kernel
theorem dX9_gaveValue_14 : decode cX9_gaveValue 14 = .ok (.checkcast 46, 3) := by decide +kernel
theorem dX9_gaveValue_17 : decode cX9_gaveValue 17 = .ok (.astore_n 2, 1) := by decide +kernel
theorem dX9_gaveValue_18 : decode cX9_gaveValue 18 = .ok (.aload_n 2, 1) := by decide +kernel
theorem dX9_gaveValue_19 : decode cX9_gaveValue 19 = .ok (.getfield 174, 3) := by decide +kernel
theorem dX9_gaveValue_22 : decode cX9_gaveValue 22 = .ok (.ifCond .eq 10, 3) := by decide +kernel
theorem dX9_gaveValue_25 : decode cX9_gaveValue 25 = .ok (.aload_n 2, 1) := by decide +kernel
theorem dX9_gaveValue_26 : decode cX9_gaveValue 26 = .ok (.getfield 183, 3) := by decide +kernel
theorem dX9_gaveValue_29 : decode cX9_gaveValue 29 = .ok (.goto 4, 3) := by decide +kernel
theorem dX9_gaveValue_32 : decode cX9_gaveValue 32 = .ok (.lconst 0, 1) := by decide +kernel
theorem dX9_gaveValue_33 : decode cX9_gaveValue 33 = .ok (.lreturn, 1) := by decide +kernel
theorem dX9_apart_0 : decode cX9_apart 0 = .ok (.aload_n 0, 1) := by decide +kernel
theorem dX9_apart_1 : decode cX9_apart 1 = .ok (.iload_n 1, 1) := by decide +kernel
theorem dX9_apart_2 : decode cX9_apart 2 = .ok (.invokevirtual 51, 3) := by decide +kernel
theorem dX9_apart_5 : decode cX9_apart 5 = .ok (.astore_n 2, 1) := by decide +kernel
theorem dX9_apart_6 : decode cX9_apart 6 = .ok (.aload_n 2, 1) := by decide +kernel
theorem dX9_apart_7 : decode cX9_apart 7 = .ok (.ifnonnull 5, 3) := by decide +kernel
theorem dX9_apart_10 : decode cX9_apart 10 = .ok (.iconst (-1), 1) := by decide +kernel
theorem dX9_apart_11 : decode cX9_apart 11 = .ok (.ireturn, 1) := by decide +kernel
theorem dX9_apart_12 : decode cX9_apart 12 = .ok (.aload_n 2, 1) := by decide +kernel
theorem dX9_apart_13 : decode cX9_apart 13 = .ok (.instanceof 41, 3) := by decide +kernel
theorem dX9_apart_16 : decode cX9_apart 16 = .ok (.ifCond .eq 15, 3) := by decide +kernel
theorem dX9_apart_19 : decode cX9_apart 19 = .ok (.aload_n 2, 1) := by decide +kernel
theorem dX9_apart_20 : decode cX9_apart 20 = .ok (.checkcast 41, 3) := by decide +kernel
theorem dX9_apart_23 : decode cX9_apart 23 = .ok (.astore_n 3, 1) := by decide +kernel
theorem dX9_apart_24 : decode cX9_apart 24 = .ok (.aload_n 3, 1) := by decide +kernel
theorem dX9_apart_25 : decode cX9_apart 25 = .ok (.invokevirtual 187, 3) := by decide +kernel
theorem dX9_apart_28 : decode cX9_apart 28 = .ok (.goto 5, 3) := by decide +kernel
theorem dX9_apart_31 : decode cX9_apart 31 = .ok (.bipush (-2), 2) := by decide +kernel
theorem dX9_apart_33 : decode cX9_apart 33 = .ok (.ireturn, 1) := by decide +kernel
theorem dX9_count_0 : decode cX9_count 0 = .ok (.iload_n 1, 1) := by decide +kernel
theorem dX9_count_1 : decode cX9_count 1 = .ok (.tableswitch 42 0 2 #[27, 32, 37], 27) := by decide +kernel
theorem dX9_count_28 : decode cX9_count 28 = .ok (.aload_n 0, 1) := by decide +kernel
theorem dX9_count_29 : decode cX9_count 29 = .ok (.getfield 37, 3) := by decide +kernel
theorem dX9_count_32 : decode cX9_count 32 = .ok (.ireturn, 1) := by decide +kernel
theorem dX9_count_33 : decode cX9_count 33 = .ok (.aload_n 0, 1) := by decide +kernel
theorem dX9_count_34 : decode cX9_count 34 = .ok (.getfield 98, 3) := by decide +kernel
theorem dX9_count_37 : decode cX9_count 37 = .ok (.ireturn, 1) := by decide +kernel
theorem dX9_count_38 : decode cX9_count 38 = .ok (.aload_n 0, 1) := by decide +kernel
theorem dX9_count_39 : decode cX9_count 39 = .ok (.invokevirtual 191, 3) := by decide +kernel
theorem dX9_count_42 : decode cX9_count 42 = .ok (.ireturn, 1) := by decide +kernel
theorem dX9_count_43 : decode cX9_count 43 = .ok (.iconst (-1), 1) := by decide +kernel
theorem dX9_count_44 : decode cX9_count 44 = .ok (.ireturn, 1) := by decide +kernel
theorem dX9_markOf_0 : decode cX9_markOf 0 = .ok (.aload_n 0, 1) := by decide +kernel
theorem dX9_markOf_1 : decode cX9_markOf 1 = .ok (.iload_n 1, 1) := by decide +kernel
theorem dX9_markOf_2 : decode cX9_markOf 2 = .ok (.invokevirtual 110, 3) := by decide +kernel
theorem dX9_markOf_5 : decode cX9_markOf 5 = .ok (.astore_n 2, 1) := by decide +kernel
theorem dX9_markOf_6 : decode cX9_markOf 6 = .ok (.aload_n 2, 1) := by decide +kernel
theorem dX9_markOf_7 : decode cX9_markOf 7 = .ok (.ifnonnull 7, 3) := by decide +kernel
theorem dX9_markOf_10 : decode cX9_markOf 10 = .ok (.iconst (-1), 1) := by decide +kernel
theorem dX9_markOf_11 : decode cX9_markOf 11 = .ok (.goto 7, 3) := by decide +kernel
theorem dX9_markOf_14 : decode cX9_markOf 14 = .ok (.aload_n 2, 1) := by decide +kernel
theorem dX9_markOf_15 : decode cX9_markOf 15 = .ok (.getfield 114, 3) := by decide +kernel
theorem dX9_markOf_18 : decode cX9_markOf 18 = .ok (.ireturn, 1) := by decide +kernel
theorem dX9_isWithin_0 : decode cX9_isWithin 0 = .ok (.iload_n 0, 1) := by decide +kernel
theorem dX9_isWithin_1 : decode cX9_isWithin 1 = .ok (.iload_n 1, 1) := by decide +kernel
theorem dX9_isWithin_2 : decode cX9_isWithin 2 = .ok (.if_icmp .lt 12, 3) := by decide +kernel
theorem dX9_isWithin_5 : decode cX9_isWithin 5 = .ok (.iload_n 0, 1) := by decide +kernel
theorem dX9_isWithin_6 : decode cX9_isWithin 6 = .ok (.iload_n 2, 1) := by decide +kernel
theorem dX9_isWithin_7 : decode cX9_isWithin 7 = .ok (.if_icmp .gt 7, 3) := by decide +kernel
theorem dX9_isWithin_10 : decode cX9_isWithin 10 = .ok (.iconst 1, 1) := by decide +kernel
theorem dX9_isWithin_11 : decode cX9_isWithin 11 = .ok (.goto 4, 3) := by decide +kernel
theorem dX9_isWithin_14 : decode cX9_isWithin 14 = .ok (.iconst 0, 1) := by decide +kernel
theorem dX9_isWithin_15 : decode cX9_isWithin 15 = .ok (.ireturn, 1) := by decide +kernel
theorem dX9_isAsSaid_0 : decode cX9_isAsSaid 0 = .ok (.iload_n 0, 1) := by decide +kernel
theorem dX9_isAsSaid_1 : decode cX9_isAsSaid 1 = .ok (.tableswitch 116 0 6 #[43, 52, 54, 56, 65, 74, 107], 43) := by decide +kernel
theorem dX9_isAsSaid_44 : decode cX9_isAsSaid 44 = .ok (.iload_n 2, 1) := by decide +kernel
theorem dX9_isAsSaid_45 : decode cX9_isAsSaid 45 = .ok (.iconst 0, 1) := by decide +kernel
theorem dX9_isAsSaid_46 : decode cX9_isAsSaid 46 = .ok (.sipush 1000, 3) := by decide +kernel
theorem dX9_isAsSaid_49 : decode cX9_isAsSaid 49 = .ok (.invokestatic 82, 3) := by decide +kernel
theorem dX9_isAsSaid_52 : decode cX9_isAsSaid 52 = .ok (.ireturn, 1) := by decide +kernel
theorem dX9_isAsSaid_53 : decode cX9_isAsSaid 53 = .ok (.iconst 1, 1) := by decide +kernel
theorem dX9_isAsSaid_54 : decode cX9_isAsSaid 54 = .ok (.ireturn, 1) := by decide +kernel
theorem dX9_isAsSaid_55 : decode cX9_isAsSaid 55 = .ok (.iconst 1, 1) := by decide +kernel
theorem dX9_isAsSaid_56 : decode cX9_isAsSaid 56 = .ok (.ireturn, 1) := by decide +kernel
theorem dX9_isAsSaid_57 : decode cX9_isAsSaid 57 = .ok (.iload_n 1, 1) := by decide +kernel
theorem dX9_isAsSaid_58 : decode cX9_isAsSaid 58 = .ok (.iconst 1, 1) := by decide +kernel
theorem dX9_isAsSaid_59 : decode cX9_isAsSaid 59 = .ok (.sipush 1000, 3) := by decide +kernel
theorem dX9_isAsSaid_62 : decode cX9_isAsSaid 62 = .ok (.invokestatic 82, 3) := by decide +kernel
theorem dX9_isAsSaid_65 : decode cX9_isAsSaid 65 = .ok (.ireturn, 1) := by decide +kernel
theorem dX9_isAsSaid_66 : decode cX9_isAsSaid 66 = .ok (.iload_n 1, 1) := by decide +kernel
theorem dX9_isAsSaid_67 : decode cX9_isAsSaid 67 = .ok (.iconst 1, 1) := by decide +kernel
theorem dX9_isAsSaid_68 : decode cX9_isAsSaid 68 = .ok (.sipush 10000, 3) := by decide +kernel
theorem dX9_isAsSaid_71 : decode cX9_isAsSaid 71 = .ok (.invokestatic 82, 3) := by decide +kernel
theorem dX9_isAsSaid_74 : decode cX9_isAsSaid 74 = .ok (.ireturn, 1) := by decide +kernel
theorem dX9_isAsSaid_75 : decode cX9_isAsSaid 75 = .ok (.iload_n 1, 1) := by decide +kernel
theorem dX9_isAsSaid_76 : decode cX9_isAsSaid 76 = .ok (.iconst 1, 1) := by decide +kernel
theorem dX9_isAsSaid_77 : decode cX9_isAsSaid 77 = .ok (.sipush 10000, 3) := by decide +kernel
theorem dX9_isAsSaid_80 : decode cX9_isAsSaid 80 = .ok (.invokestatic 82, 3) := by decide +kernel
theorem dX9_isAsSaid_83 : decode cX9_isAsSaid 83 = .ok (.ifCond .eq 23, 3) := by decide +kernel
theorem dX9_isAsSaid_86 : decode cX9_isAsSaid 86 = .ok (.iload_n 2, 1) := by decide +kernel
theorem dX9_isAsSaid_87 : decode cX9_isAsSaid 87 = .ok (.iconst 1, 1) := by decide +kernel
theorem dX9_isAsSaid_88 : decode cX9_isAsSaid 88 = .ok (.iload_n 1, 1) := by decide +kernel
theorem dX9_isAsSaid_89 : decode cX9_isAsSaid 89 = .ok (.invokestatic 82, 3) := by decide +kernel
theorem dX9_isAsSaid_92 : decode cX9_isAsSaid 92 = .ok (.ifCond .eq 14, 3) := by decide +kernel
theorem dX9_isAsSaid_95 : decode cX9_isAsSaid 95 = .ok (.iload_n 1, 1) := by decide +kernel
theorem dX9_isAsSaid_96 : decode cX9_isAsSaid 96 = .ok (.iconst 4, 1) := by decide +kernel
theorem dX9_isAsSaid_97 : decode cX9_isAsSaid 97 = .ok (.iload_n 2, 1) := by decide +kernel
theorem dX9_isAsSaid_98 : decode cX9_isAsSaid 98 = .ok (.imul, 1) := by decide +kernel
theorem dX9_isAsSaid_99 : decode cX9_isAsSaid 99 = .ok (.if_icmp .gt 7, 3) := by decide +kernel
theorem dX9_isAsSaid_102 : decode cX9_isAsSaid 102 = .ok (.iconst 1, 1) := by decide +kernel
theorem dX9_isAsSaid_103 : decode cX9_isAsSaid 103 = .ok (.goto 4, 3) := by decide +kernel
theorem dX9_isAsSaid_106 : decode cX9_isAsSaid 106 = .ok (.iconst 0, 1) := by decide +kernel
theorem dX9_isAsSaid_107 : decode cX9_isAsSaid 107 = .ok (.ireturn, 1) := by decide +kernel
theorem dX9_isAsSaid_108 : decode cX9_isAsSaid 108 = .ok (.iload_n 1, 1) := by decide +kernel
theorem dX9_isAsSaid_109 : decode cX9_isAsSaid 109 = .ok (.iconst 0, 1) := by decide +kernel
theorem dX9_isAsSaid_110 : decode cX9_isAsSaid 110 = .ok (.sipush 10000, 3) := by decide +kernel
theorem dX9_isAsSaid_113 : decode cX9_isAsSaid 113 = .ok (.invokestatic 82, 3) := by decide +kernel
theorem dX9_isAsSaid_116 : decode cX9_isAsSaid 116 = .ok (.ireturn, 1) := by decide +kernel
theorem dX9_isAsSaid_117 : decode cX9_isAsSaid 117 = .ok (.iconst 0, 1) := by decide +kernel
theorem dX9_isAsSaid_118 : decode cX9_isAsSaid 118 = .ok (.ireturn, 1) := by decide +kernel
theorem dX9_isPort_0 : decode cX9_isPort 0 = .ok (.iload_n 0, 1) := by decide +kernel
theorem dX9_isPort_1 : decode cX9_isPort 1 = .ok (.iconst 0, 1) := by decide +kernel
theorem dX9_isPort_2 : decode cX9_isPort 2 = .ok (.bipush 7, 2) := by decide +kernel
theorem dX9_isPort_4 : decode cX9_isPort 4 = .ok (.invokestatic 82, 3) := by decide +kernel
theorem dX9_isPort_7 : decode cX9_isPort 7 = .ok (.ireturn, 1) := by decide +kernel
theorem dX9_portAt_0 : decode cX9_portAt 0 = .ok (.iload_n 1, 1) := by decide +kernel
theorem dX9_portAt_1 : decode cX9_portAt 1 = .ok (.invokestatic 95, 3) := by decide +kernel
theorem dX9_portAt_4 : decode cX9_portAt 4 = .ok (.ifCond .eq 12, 3) := by decide +kernel
theorem dX9_portAt_7 : decode cX9_portAt 7 = .ok (.aload_n 0, 1) := by decide +kernel
theorem dX9_portAt_8 : decode cX9_portAt 8 = .ok (.getfield 11, 3) := by decide +kernel
theorem dX9_portAt_11 : decode cX9_portAt 11 = .ok (.iload_n 1, 1) := by decide +kernel
theorem dX9_portAt_12 : decode cX9_portAt 12 = .ok (.aaload, 1) := by decide +kernel
theorem dX9_portAt_13 : decode cX9_portAt 13 = .ok (.goto 4, 3) := by decide +kernel
theorem dX9_portAt_16 : decode cX9_portAt 16 = .ok (.aconst_null, 1) := by decide +kernel
theorem dX9_portAt_17 : decode cX9_portAt 17 = .ok (.areturn, 1) := by decide +kernel
theorem dX9_sourceAt_0 : decode cX9_sourceAt 0 = .ok (.iload_n 1, 1) := by decide +kernel
theorem dX9_sourceAt_1 : decode cX9_sourceAt 1 = .ok (.ifCond .lt 21, 3) := by decide +kernel
theorem dX9_sourceAt_4 : decode cX9_sourceAt 4 = .ok (.iload_n 1, 1) := by decide +kernel
theorem dX9_sourceAt_5 : decode cX9_sourceAt 5 = .ok (.aload_n 0, 1) := by decide +kernel
theorem dX9_sourceAt_6 : decode cX9_sourceAt 6 = .ok (.getfield 11, 3) := by decide +kernel
theorem dX9_sourceAt_9 : decode cX9_sourceAt 9 = .ok (.arraylength, 1) := by decide +kernel
theorem dX9_sourceAt_10 : decode cX9_sourceAt 10 = .ok (.if_icmp .ge 12, 3) := by decide +kernel
theorem dX9_sourceAt_13 : decode cX9_sourceAt 13 = .ok (.aload_n 0, 1) := by decide +kernel
theorem dX9_sourceAt_14 : decode cX9_sourceAt 14 = .ok (.getfield 11, 3) := by decide +kernel
theorem dX9_sourceAt_17 : decode cX9_sourceAt 17 = .ok (.iload_n 1, 1) := by decide +kernel
theorem dX9_sourceAt_18 : decode cX9_sourceAt 18 = .ok (.aaload, 1) := by decide +kernel
theorem dX9_sourceAt_19 : decode cX9_sourceAt 19 = .ok (.goto 4, 3) := by decide +kernel
theorem dX9_sourceAt_22 : decode cX9_sourceAt 22 = .ok (.aconst_null, 1) := by decide +kernel
theorem dX9_sourceAt_23 : decode cX9_sourceAt 23 = .ok (.areturn, 1) := by decide +kernel
theorem dX9_stageAt_0 : decode cX9_stageAt 0 = .ok (.iload_n 1, 1) := by decide +kernel
theorem dX9_stageAt_1 : decode cX9_stageAt 1 = .ok (.ifCond .lt 20, 3) := by decide +kernel
theorem dX9_stageAt_4 : decode cX9_stageAt 4 = .ok (.iload_n 1, 1) := by decide +kernel
theorem dX9_stageAt_5 : decode cX9_stageAt 5 = .ok (.aload_n 0, 1) := by decide +kernel
theorem dX9_stageAt_6 : decode cX9_stageAt 6 = .ok (.getfield 37, 3) := by decide +kernel
theorem dX9_stageAt_9 : decode cX9_stageAt 9 = .ok (.if_icmp .ge 12, 3) := by decide +kernel
theorem dX9_stageAt_12 : decode cX9_stageAt 12 = .ok (.aload_n 0, 1) := by decide +kernel
theorem dX9_stageAt_13 : decode cX9_stageAt 13 = .ok (.getfield 17, 3) := by decide +kernel
theorem dX9_stageAt_16 : decode cX9_stageAt 16 = .ok (.iload_n 1, 1) := by decide +kernel
theorem dX9_stageAt_17 : decode cX9_stageAt 17 = .ok (.aaload, 1) := by decide +kernel
theorem dX9_stageAt_18 : decode cX9_stageAt 18 = .ok (.goto 4, 3) := by decide +kernel
theorem dX9_stageAt_21 : decode cX9_stageAt 21 = .ok (.aconst_null, 1) := by decide +kernel
theorem dX9_stageAt_22 : decode cX9_stageAt 22 = .ok (.areturn, 1) := by decide +kernel
theorem dX9_openWindows_0 : decode cX9_openWindows 0 = .ok (.iconst 0, 1) := by decide +kernel
theorem dX9_openWindows_1 : decode cX9_openWindows 1 = .ok (.istore_n 1, 1) := by decide +kernel
theorem dX9_openWindows_2 : decode cX9_openWindows 2 = .ok (.iconst 0, 1) := by decide +kernel
theorem dX9_openWindows_3 : decode cX9_openWindows 3 = .ok (.istore_n 2, 1) := by decide +kernel
theorem dX9_openWindows_4 : decode cX9_openWindows 4 = .ok (.iload_n 2, 1) := by decide +kernel
theorem dX9_openWindows_5 : decode cX9_openWindows 5 = .ok (.aload_n 0, 1) := by decide +kernel
theorem dX9_openWindows_6 : decode cX9_openWindows 6 = .ok (.getfield 37, 3) := by decide +kernel
theorem dX9_openWindows_9 : decode cX9_openWindows 9 = .ok (.if_icmp .ge 38, 3) := by decide +kernel
theorem dX9_openWindows_12 : decode cX9_openWindows 12 = .ok (.aload_n 0, 1) := by decide +kernel
theorem dX9_openWindows_13 : decode cX9_openWindows 13 = .ok (.getfield 17, 3) := by decide +kernel
theorem dX9_openWindows_16 : decode cX9_openWindows 16 = .ok (.iload_n 2, 1) := by decide +kernel
theorem dX9_openWindows_17 : decode cX9_openWindows 17 = .ok (.aaload, 1) := by decide +kernel
theorem dX9_openWindows_18 : decode cX9_openWindows 18 = .ok (.astore 4, 2) := by decide +kernel
theorem dX9_openWindows_20 : decode cX9_openWindows 20 = .ok (.aload 4, 2) := by decide +kernel
theorem dX9_openWindows_22 : decode cX9_openWindows 22 = .ok (.instanceof 41, 3) := by decide +kernel
theorem dX9_openWindows_25 : decode cX9_openWindows 25 = .ok (.ifCond .eq 16, 3) := by decide +kernel
theorem dX9_openWindows_28 : decode cX9_openWindows 28 = .ok (.aload 4, 2) := by decide +kernel
theorem dX9_openWindows_30 : decode cX9_openWindows 30 = .ok (.checkcast 41, 3) := by decide +kernel
theorem dX9_openWindows_33 : decode cX9_openWindows 33 = .ok (.astore_n 3, 1) := by decide +kernel
theorem dX9_openWindows_34 : decode cX9_openWindows 34 = .ok (.iload_n 1, 1) := by decide +kernel
theorem dX9_openWindows_35 : decode cX9_openWindows 35 = .ok (.aload_n 3, 1) := by decide +kernel
theorem dX9_openWindows_36 : decode cX9_openWindows 36 = .ok (.getfield 167, 3) := by decide +kernel
theorem dX9_openWindows_39 : decode cX9_openWindows 39 = .ok (.iadd, 1) := by decide +kernel
theorem dX9_openWindows_40 : decode cX9_openWindows 40 = .ok (.istore_n 1, 1) := by decide +kernel
theorem dX9_openWindows_41 : decode cX9_openWindows 41 = .ok (.iinc 2 1, 3) := by decide +kernel
theorem dX9_openWindows_44 : decode cX9_openWindows 44 = .ok (.goto (-40), 3) := by decide +kernel
theorem dX9_openWindows_47 : decode cX9_openWindows 47 = .ok (.iload_n 1, 1) := by decide +kernel
theorem dX9_openWindows_48 : decode cX9_openWindows 48 = .ok (.ireturn, 1) := by decide +kernel
theorem dX9_hasTooManyWays_0 : decode cX9_hasTooManyWays 0 = .ok (.iconst 0, 1) := by decide +kernel
theorem dX9_hasTooManyWays_1 : decode cX9_hasTooManyWays 1 = .ok (.istore_n 3, 1) := by decide +kernel
theorem dX9_hasTooManyWays_2 : decode cX9_hasTooManyWays 2 = .ok (.iload_n 3, 1) := by decide +kernel
theorem dX9_hasTooManyWays_3 : decode cX9_hasTooManyWays 3 = .ok (.bipush 8, 2) := by decide +kernel
theorem dX9_hasTooManyWays_5 : decode cX9_hasTooManyWays 5 = .ok (.if_icmp .ge 124, 3) := by decide +kernel
theorem dX9_hasTooManyWays_8 : decode cX9_hasTooManyWays 8 = .ok (.iconst 0, 1) := by decide +kernel
theorem dX9_hasTooManyWays_9 : decode cX9_hasTooManyWays 9 = .ok (.istore 4, 2) := by decide +kernel
theorem dX9_hasTooManyWays_11 : decode cX9_hasTooManyWays 11 = .ok (.iconst 0, 1) := by decide +kernel
theorem dX9_hasTooManyWays_12 : decode cX9_hasTooManyWays 12 = .ok (.istore 5, 2) := by decide +kernel
theorem dX9_hasTooManyWays_14 : decode cX9_hasTooManyWays 14 = .ok (.iconst 0, 1) := by decide +kernel
theorem dX9_hasTooManyWays_15 : decode cX9_hasTooManyWays 15 = .ok (.istore 6, 2) := by decide +kernel
theorem dX9_hasTooManyWays_17 : decode cX9_hasTooManyWays 17 = .ok (.iload 6, 2) := by decide +kernel
theorem dX9_hasTooManyWays_19 : decode cX9_hasTooManyWays 19 = .ok (.aload_n 0, 1) := by decide +kernel
theorem dX9_hasTooManyWays_20 : decode cX9_hasTooManyWays 20 = .ok (.getfield 37, 3) := by decide +kernel
theorem dX9_hasTooManyWays_23 : decode cX9_hasTooManyWays 23 = .ok (.if_icmp .ge 85, 3) := by decide +kernel
theorem dX9_hasTooManyWays_26 : decode cX9_hasTooManyWays 26 = .ok (.iload 6, 2) := by decide +kernel
theorem dX9_hasTooManyWays_28 : decode cX9_hasTooManyWays 28 = .ok (.iload_n 1, 1) := by decide +kernel
theorem dX9_hasTooManyWays_29 : decode cX9_hasTooManyWays 29 = .ok (.if_icmp .ne 12, 3) := by decide +kernel
theorem dX9_hasTooManyWays_32 : decode cX9_hasTooManyWays 32 = .ok (.aload_n 0, 1) := by decide +kernel
theorem dX9_hasTooManyWays_33 : decode cX9_hasTooManyWays 33 = .ok (.iload_n 3, 1) := by decide +kernel
theorem dX9_hasTooManyWays_34 : decode cX9_hasTooManyWays 34 = .ok (.iload_n 2, 1) := by decide +kernel
theorem dX9_hasTooManyWays_35 : decode cX9_hasTooManyWays 35 = .ok (.invokevirtual 194, 3) := by decide +kernel
theorem dX9_hasTooManyWays_38 : decode cX9_hasTooManyWays 38 = .ok (.goto 4, 3) := by decide +kernel
theorem dX9_hasTooManyWays_41 : decode cX9_hasTooManyWays 41 = .ok (.iconst 0, 1) := by decide +kernel
theorem dX9_hasTooManyWays_42 : decode cX9_hasTooManyWays 42 = .ok (.istore 7, 2) := by decide +kernel
theorem dX9_hasTooManyWays_44 : decode cX9_hasTooManyWays 44 = .ok (.aload_n 0, 1) := by decide +kernel
theorem dX9_hasTooManyWays_45 : decode cX9_hasTooManyWays 45 = .ok (.getfield 21, 3) := by decide +kernel
theorem dX9_hasTooManyWays_48 : decode cX9_hasTooManyWays 48 = .ok (.iload 6, 2) := by decide +kernel
theorem dX9_hasTooManyWays_50 : decode cX9_hasTooManyWays 50 = .ok (.aload_n 0, 1) := by decide +kernel
theorem dX9_hasTooManyWays_51 : decode cX9_hasTooManyWays 51 = .ok (.iload_n 3, 1) := by decide +kernel
theorem dX9_hasTooManyWays_52 : decode cX9_hasTooManyWays 52 = .ok (.iload 6, 2) := by decide +kernel
theorem dX9_hasTooManyWays_54 : decode cX9_hasTooManyWays 54 = .ok (.invokevirtual 198, 3) := by decide +kernel
theorem dX9_hasTooManyWays_57 : decode cX9_hasTooManyWays 57 = .ok (.iload 7, 2) := by decide +kernel
theorem dX9_hasTooManyWays_59 : decode cX9_hasTooManyWays 59 = .ok (.iadd, 1) := by decide +kernel
theorem dX9_hasTooManyWays_60 : decode cX9_hasTooManyWays 60 = .ok (.iastore, 1) := by decide +kernel
theorem dX9_hasTooManyWays_61 : decode cX9_hasTooManyWays 61 = .ok (.iload 4, 2) := by decide +kernel
theorem dX9_hasTooManyWays_63 : decode cX9_hasTooManyWays 63 = .ok (.aload_n 0, 1) := by decide +kernel
theorem dX9_hasTooManyWays_64 : decode cX9_hasTooManyWays 64 = .ok (.getfield 21, 3) := by decide +kernel
theorem dX9_hasTooManyWays_67 : decode cX9_hasTooManyWays 67 = .ok (.iload 6, 2) := by decide +kernel
theorem dX9_hasTooManyWays_69 : decode cX9_hasTooManyWays 69 = .ok (.iaload, 1) := by decide +kernel
theorem dX9_hasTooManyWays_70 : decode cX9_hasTooManyWays 70 = .ok (.iadd, 1) := by decide +kernel
theorem dX9_hasTooManyWays_71 : decode cX9_hasTooManyWays 71 = .ok (.istore 4, 2) := by decide +kernel
theorem dX9_hasTooManyWays_73 : decode cX9_hasTooManyWays 73 = .ok (.iload 5, 2) := by decide +kernel
theorem dX9_hasTooManyWays_75 : decode cX9_hasTooManyWays 75 = .ok (.aload_n 0, 1) := by decide +kernel
theorem dX9_hasTooManyWays_76 : decode cX9_hasTooManyWays 76 = .ok (.getfield 17, 3) := by decide +kernel
theorem dX9_hasTooManyWays_79 : decode cX9_hasTooManyWays 79 = .ok (.iload 6, 2) := by decide +kernel
theorem dX9_hasTooManyWays_81 : decode cX9_hasTooManyWays 81 = .ok (.aaload, 1) := by decide +kernel
theorem dX9_hasTooManyWays_82 : decode cX9_hasTooManyWays 82 = .ok (.instanceof 41, 3) := by decide +kernel
theorem dX9_hasTooManyWays_85 : decode cX9_hasTooManyWays 85 = .ok (.ifCond .eq 13, 3) := by decide +kernel
theorem dX9_hasTooManyWays_88 : decode cX9_hasTooManyWays 88 = .ok (.aload_n 0, 1) := by decide +kernel
theorem dX9_hasTooManyWays_89 : decode cX9_hasTooManyWays 89 = .ok (.getfield 21, 3) := by decide +kernel
theorem dX9_hasTooManyWays_92 : decode cX9_hasTooManyWays 92 = .ok (.iload 6, 2) := by decide +kernel
theorem dX9_hasTooManyWays_94 : decode cX9_hasTooManyWays 94 = .ok (.iaload, 1) := by decide +kernel
theorem dX9_hasTooManyWays_95 : decode cX9_hasTooManyWays 95 = .ok (.goto 4, 3) := by decide +kernel
theorem dX9_hasTooManyWays_98 : decode cX9_hasTooManyWays 98 = .ok (.iconst 0, 1) := by decide +kernel
theorem dX9_hasTooManyWays_99 : decode cX9_hasTooManyWays 99 = .ok (.iadd, 1) := by decide +kernel
theorem dX9_hasTooManyWays_100 : decode cX9_hasTooManyWays 100 = .ok (.istore 5, 2) := by decide +kernel
theorem dX9_hasTooManyWays_102 : decode cX9_hasTooManyWays 102 = .ok (.iinc 6 1, 3) := by decide +kernel
theorem dX9_hasTooManyWays_105 : decode cX9_hasTooManyWays 105 = .ok (.goto (-88), 3) := by decide +kernel
theorem dX9_hasTooManyWays_108 : decode cX9_hasTooManyWays 108 = .ok (.iload 4, 2) := by decide +kernel
theorem dX9_hasTooManyWays_110 : decode cX9_hasTooManyWays 110 = .ok (.bipush 32, 2) := by decide +kernel
theorem dX9_hasTooManyWays_112 : decode cX9_hasTooManyWays 112 = .ok (.if_icmp .gt 9, 3) := by decide +kernel
theorem dX9_hasTooManyWays_115 : decode cX9_hasTooManyWays 115 = .ok (.iload 5, 2) := by decide +kernel
theorem dX9_hasTooManyWays_117 : decode cX9_hasTooManyWays 117 = .ok (.iconst 4, 1) := by decide +kernel
theorem dX9_hasTooManyWays_118 : decode cX9_hasTooManyWays 118 = .ok (.if_icmp .le 5, 3) := by decide +kernel
theorem dX9_hasTooManyWays_121 : decode cX9_hasTooManyWays 121 = .ok (.iconst 1, 1) := by decide +kernel
theorem dX9_hasTooManyWays_122 : decode cX9_hasTooManyWays 122 = .ok (.ireturn, 1) := by decide +kernel
theorem dX9_hasTooManyWays_123 : decode cX9_hasTooManyWays 123 = .ok (.iinc 3 1, 3) := by decide +kernel
theorem dX9_hasTooManyWays_126 : decode cX9_hasTooManyWays 126 = .ok (.goto (-124), 3) := by decide +kernel
theorem dX9_hasTooManyWays_129 : decode cX9_hasTooManyWays 129 = .ok (.iconst 0, 1) := by decide +kernel
theorem dX9_hasTooManyWays_130 : decode cX9_hasTooManyWays 130 = .ok (.ireturn, 1) := by decide +kernel
theorem dX9_waysToStage_0 : decode cX9_waysToStage 0 = .ok (.iconst 0, 1) := by decide +kernel
theorem dX9_waysToStage_1 : decode cX9_waysToStage 1 = .ok (.istore_n 3, 1) := by decide +kernel
theorem dX9_waysToStage_2 : decode cX9_waysToStage 2 = .ok (.iconst 0, 1) := by decide +kernel
theorem dX9_waysToStage_3 : decode cX9_waysToStage 3 = .ok (.istore 4, 2) := by decide +kernel
theorem dX9_waysToStage_5 : decode cX9_waysToStage 5 = .ok (.iload 4, 2) := by decide +kernel
theorem dX9_waysToStage_7 : decode cX9_waysToStage 7 = .ok (.bipush 8, 2) := by decide +kernel
theorem dX9_waysToStage_9 : decode cX9_waysToStage 9 = .ok (.iload_n 2, 1) := by decide +kernel
theorem dX9_waysToStage_10 : decode cX9_waysToStage 10 = .ok (.iadd, 1) := by decide +kernel
theorem dX9_waysToStage_11 : decode cX9_waysToStage 11 = .ok (.if_icmp .ge 37, 3) := by decide +kernel
theorem dX9_waysToStage_14 : decode cX9_waysToStage 14 = .ok (.iload_n 3, 1) := by decide +kernel
theorem dX9_waysToStage_15 : decode cX9_waysToStage 15 = .ok (.aload_n 0, 1) := by decide +kernel
theorem dX9_waysToStage_16 : decode cX9_waysToStage 16 = .ok (.getfield 17, 3) := by decide +kernel
theorem dX9_waysToStage_19 : decode cX9_waysToStage 19 = .ok (.iload_n 2, 1) := by decide +kernel
theorem dX9_waysToStage_20 : decode cX9_waysToStage 20 = .ok (.aaload, 1) := by decide +kernel
theorem dX9_waysToStage_21 : decode cX9_waysToStage 21 = .ok (.iload 4, 2) := by decide +kernel
theorem dX9_waysToStage_23 : decode cX9_waysToStage 23 = .ok (.invokevirtual 59, 3) := by decide +kernel
theorem dX9_waysToStage_26 : decode cX9_waysToStage 26 = .ok (.ifCond .eq 13, 3) := by decide +kernel
theorem dX9_waysToStage_29 : decode cX9_waysToStage 29 = .ok (.aload_n 0, 1) := by decide +kernel
theorem dX9_waysToStage_30 : decode cX9_waysToStage 30 = .ok (.iload_n 1, 1) := by decide +kernel
theorem dX9_waysToStage_31 : decode cX9_waysToStage 31 = .ok (.iload 4, 2) := by decide +kernel
theorem dX9_waysToStage_33 : decode cX9_waysToStage 33 = .ok (.invokevirtual 194, 3) := by decide +kernel
theorem dX9_waysToStage_36 : decode cX9_waysToStage 36 = .ok (.goto 4, 3) := by decide +kernel
theorem dX9_waysToStage_39 : decode cX9_waysToStage 39 = .ok (.iconst 0, 1) := by decide +kernel
theorem dX9_waysToStage_40 : decode cX9_waysToStage 40 = .ok (.iadd, 1) := by decide +kernel
theorem dX9_waysToStage_41 : decode cX9_waysToStage 41 = .ok (.istore_n 3, 1) := by decide +kernel
theorem dX9_waysToStage_42 : decode cX9_waysToStage 42 = .ok (.iinc 4 1, 3) := by decide +kernel
theorem dX9_waysToStage_45 : decode cX9_waysToStage 45 = .ok (.goto (-40), 3) := by decide +kernel
theorem dX9_waysToStage_48 : decode cX9_waysToStage 48 = .ok (.iload_n 3, 1) := by decide +kernel
theorem dX9_waysToStage_49 : decode cX9_waysToStage 49 = .ok (.ireturn, 1) := by decide +kernel
theorem dX9_waysToSource_0 : decode cX9_waysToSource 0 = .ok (.iload_n 2, 1) := by decide +kernel
theorem dX9_waysToSource_1 : decode cX9_waysToSource 1 = .ok (.bipush 8, 2) := by decide +kernel
theorem dX9_waysToSource_3 : decode cX9_waysToSource 3 = .ok (.if_icmp .ge 14, 3) := by decide +kernel
theorem dX9_waysToSource_6 : decode cX9_waysToSource 6 = .ok (.iload_n 2, 1) := by decide +kernel
theorem dX9_waysToSource_7 : decode cX9_waysToSource 7 = .ok (.iload_n 1, 1) := by decide +kernel
theorem dX9_waysToSource_8 : decode cX9_waysToSource 8 = .ok (.if_icmp .ne 7, 3) := by decide +kernel
theorem dX9_waysToSource_11 : decode cX9_waysToSource 11 = .ok (.iconst 1, 1) := by decide +kernel
theorem dX9_waysToSource_12 : decode cX9_waysToSource 12 = .ok (.goto 4, 3) := by decide +kernel
theorem dX9_waysToSource_15 : decode cX9_waysToSource 15 = .ok (.iconst 0, 1) := by decide +kernel
theorem dX9_waysToSource_16 : decode cX9_waysToSource 16 = .ok (.ireturn, 1) := by decide +kernel
theorem dX9_waysToSource_17 : decode cX9_waysToSource 17 = .ok (.aload_n 0, 1) := by decide +kernel
theorem dX9_waysToSource_18 : decode cX9_waysToSource 18 = .ok (.getfield 21, 3) := by decide +kernel
theorem dX9_waysToSource_21 : decode cX9_waysToSource 21 = .ok (.iload_n 2, 1) := by decide +kernel
theorem dX9_waysToSource_22 : decode cX9_waysToSource 22 = .ok (.bipush 8, 2) := by decide +kernel
theorem dX9_waysToSource_24 : decode cX9_waysToSource 24 = .ok (.isub, 1) := by decide +kernel
theorem dX9_waysToSource_25 : decode cX9_waysToSource 25 = .ok (.iaload, 1) := by decide +kernel
theorem dX9_waysToSource_26 : decode cX9_waysToSource 26 = .ok (.ireturn, 1) := by decide +kernel
theorem dX9_carry_0 : decode cX9_carry 0 = .ok (.iconst 0, 1) := by decide +kernel
theorem dX9_carry_1 : decode cX9_carry 1 = .ok (.iload_n 1, 1) := by decide +kernel
theorem dX9_carry_2 : decode cX9_carry 2 = .ok (.bipush 8, 2) := by decide +kernel
theorem dX9_carry_4 : decode cX9_carry 4 = .ok (.isub, 1) := by decide +kernel
theorem dX9_carry_5 : decode cX9_carry 5 = .ok (.iconst 1, 1) := by decide +kernel
theorem dX9_carry_6 : decode cX9_carry 6 = .ok (.iadd, 1) := by decide +kernel
theorem dX9_carry_7 : decode cX9_carry 7 = .ok (.invokestatic 201, 3) := by decide +kernel
theorem dX9_carry_10 : decode cX9_carry 10 = .ok (.istore 6, 2) := by decide +kernel
theorem dX9_carry_12 : decode cX9_carry 12 = .ok (.iload 6, 2) := by decide +kernel
theorem dX9_carry_14 : decode cX9_carry 14 = .ok (.aload_n 0, 1) := by decide +kernel
theorem dX9_carry_15 : decode cX9_carry 15 = .ok (.getfield 37, 3) := by decide +kernel
theorem dX9_carry_18 : decode cX9_carry 18 = .ok (.if_icmp .ge 118, 3) := by decide +kernel
theorem dX9_carry_21 : decode cX9_carry 21 = .ok (.aload_n 0, 1) := by decide +kernel
theorem dX9_carry_22 : decode cX9_carry 22 = .ok (.getfield 17, 3) := by decide +kernel
theorem dX9_carry_25 : decode cX9_carry 25 = .ok (.iload 6, 2) := by decide +kernel
theorem dX9_carry_27 : decode cX9_carry 27 = .ok (.aaload, 1) := by decide +kernel
theorem dX9_carry_28 : decode cX9_carry 28 = .ok (.iload_n 1, 1) := by decide +kernel
theorem dX9_carry_29 : decode cX9_carry 29 = .ok (.invokevirtual 59, 3) := by decide +kernel
theorem dX9_carry_32 : decode cX9_carry 32 = .ok (.ifCond .ne 6, 3) := by decide +kernel
theorem dX9_carry_35 : decode cX9_carry 35 = .ok (.goto 95, 3) := by decide +kernel
theorem dX9_carry_38 : decode cX9_carry 38 = .ok (.aload_n 0, 1) := by decide +kernel
theorem dX9_carry_39 : decode cX9_carry 39 = .ok (.getfield 17, 3) := by decide +kernel
theorem dX9_carry_42 : decode cX9_carry 42 = .ok (.iload 6, 2) := by decide +kernel
theorem dX9_carry_44 : decode cX9_carry 44 = .ok (.aaload, 1) := by decide +kernel
theorem dX9_carry_45 : decode cX9_carry 45 = .ok (.astore 9, 2) := by decide +kernel
theorem dX9_carry_47 : decode cX9_carry 47 = .ok (.aload 9, 2) := by decide +kernel
theorem dX9_carry_49 : decode cX9_carry 49 = .ok (.instanceof 41, 3) := by decide +kernel
theorem dX9_carry_52 : decode cX9_carry 52 = .ok (.ifCond .eq 22, 3) := by decide +kernel
theorem dX9_carry_55 : decode cX9_carry 55 = .ok (.aload 9, 2) := by decide +kernel
theorem dX9_carry_57 : decode cX9_carry 57 = .ok (.checkcast 41, 3) := by decide +kernel
theorem dX9_carry_60 : decode cX9_carry 60 = .ok (.astore 7, 2) := by decide +kernel
theorem dX9_carry_62 : decode cX9_carry 62 = .ok (.aload 7, 2) := by decide +kernel
theorem dX9_carry_64 : decode cX9_carry 64 = .ok (.iload_n 2, 1) := by decide +kernel
theorem dX9_carry_65 : decode cX9_carry 65 = .ok (.iload_n 3, 1) := by decide +kernel
theorem dX9_carry_66 : decode cX9_carry 66 = .ok (.lload 4, 2) := by decide +kernel
theorem dX9_carry_68 : decode cX9_carry 68 = .ok (.invokevirtual 206, 3) := by decide +kernel
theorem dX9_carry_71 : decode cX9_carry 71 = .ok (.goto 59, 3) := by decide +kernel
theorem dX9_carry_74 : decode cX9_carry 74 = .ok (.aload_n 0, 1) := by decide +kernel
theorem dX9_carry_75 : decode cX9_carry 75 = .ok (.getfield 17, 3) := by decide +kernel
theorem dX9_carry_78 : decode cX9_carry 78 = .ok (.iload 6, 2) := by decide +kernel
theorem dX9_carry_80 : decode cX9_carry 80 = .ok (.aaload, 1) := by decide +kernel
theorem dX9_carry_81 : decode cX9_carry 81 = .ok (.astore 9, 2) := by decide +kernel
theorem dX9_carry_83 : decode cX9_carry 83 = .ok (.aload 9, 2) := by decide +kernel
theorem dX9_carry_85 : decode cX9_carry 85 = .ok (.instanceof 46, 3) := by decide +kernel
theorem dX9_carry_88 : decode cX9_carry 88 = .ok (.ifCond .eq 42, 3) := by decide +kernel
theorem dX9_carry_91 : decode cX9_carry 91 = .ok (.aload 9, 2) := by decide +kernel
theorem dX9_carry_93 : decode cX9_carry 93 = .ok (.checkcast 46, 3) := by decide +kernel
theorem dX9_carry_96 : decode cX9_carry 96 = .ok (.astore 8, 2) := by decide +kernel
theorem dX9_carry_98 : decode cX9_carry 98 = .ok (.aload 8, 2) := by decide +kernel
theorem dX9_carry_100 : decode cX9_carry 100 = .ok (.iload_n 2, 1) := by decide +kernel
theorem dX9_carry_101 : decode cX9_carry 101 = .ok (.iload_n 3, 1) := by decide +kernel
theorem dX9_carry_102 : decode cX9_carry 102 = .ok (.lload 4, 2) := by decide +kernel
theorem dX9_carry_104 : decode cX9_carry 104 = .ok (.invokevirtual 210, 3) := by decide +kernel
theorem dX9_carry_107 : decode cX9_carry 107 = .ok (.ifCond .eq 23, 3) := by decide +kernel
theorem dX9_carry_110 : decode cX9_carry 110 = .ok (.aload_n 0, 1) := by decide +kernel
theorem dX9_carry_111 : decode cX9_carry 111 = .ok (.bipush 8, 2) := by decide +kernel
theorem dX9_carry_113 : decode cX9_carry 113 = .ok (.iload 6, 2) := by decide +kernel
theorem dX9_carry_115 : decode cX9_carry 115 = .ok (.iadd, 1) := by decide +kernel
theorem dX9_carry_116 : decode cX9_carry 116 = .ok (.aload 8, 2) := by decide +kernel
theorem dX9_carry_118 : decode cX9_carry 118 = .ok (.getfield 177, 3) := by decide +kernel
theorem dX9_carry_121 : decode cX9_carry 121 = .ok (.iload_n 3, 1) := by decide +kernel
theorem dX9_carry_122 : decode cX9_carry 122 = .ok (.aload 8, 2) := by decide +kernel
theorem dX9_carry_124 : decode cX9_carry 124 = .ok (.getfield 183, 3) := by decide +kernel
theorem dX9_carry_127 : decode cX9_carry 127 = .ok (.invokevirtual 101, 3) := by decide +kernel
theorem dX9_carry_130 : decode cX9_carry 130 = .ok (.iinc 6 1, 3) := by decide +kernel
theorem dX9_carry_133 : decode cX9_carry 133 = .ok (.goto (-121), 3) := by decide +kernel
theorem dX9_carry_136 : decode cX9_carry 136 = .ok (.return_, 1) := by decide +kernel
theorem dX9_settleMarks_0 : decode cX9_settleMarks 0 = .ok (.iconst 0, 1) := by decide +kernel
theorem dX9_settleMarks_1 : decode cX9_settleMarks 1 = .ok (.istore_n 1, 1) := by decide +kernel
theorem dX9_settleMarks_2 : decode cX9_settleMarks 2 = .ok (.iload_n 1, 1) := by decide +kernel
theorem dX9_settleMarks_3 : decode cX9_settleMarks 3 = .ok (.aload_n 0, 1) := by decide +kernel
theorem dX9_settleMarks_4 : decode cX9_settleMarks 4 = .ok (.getfield 37, 3) := by decide +kernel
theorem dX9_settleMarks_7 : decode cX9_settleMarks 7 = .ok (.if_icmp .ge 104, 3) := by decide +kernel
theorem dX9_settleMarks_10 : decode cX9_settleMarks 10 = .ok (.aload_n 0, 1) := by decide +kernel
theorem dX9_settleMarks_11 : decode cX9_settleMarks 11 = .ok (.getfield 17, 3) := by decide +kernel
theorem dX9_settleMarks_14 : decode cX9_settleMarks 14 = .ok (.iload_n 1, 1) := by decide +kernel
theorem dX9_settleMarks_15 : decode cX9_settleMarks 15 = .ok (.aaload, 1) := by decide +kernel
theorem dX9_settleMarks_16 : decode cX9_settleMarks 16 = .ok (.astore_n 2, 1) := by decide +kernel
theorem dX9_settleMarks_17 : decode cX9_settleMarks 17 = .ok (.aload_n 2, 1) := by decide +kernel
theorem dX9_settleMarks_18 : decode cX9_settleMarks 18 = .ok (.iconst 1, 1) := by decide +kernel
theorem dX9_settleMarks_19 : decode cX9_settleMarks 19 = .ok (.putfield 173, 3) := by decide +kernel
theorem dX9_settleMarks_22 : decode cX9_settleMarks 22 = .ok (.ldc 113, 2) := by decide +kernel
theorem dX9_settleMarks_24 : decode cX9_settleMarks 24 = .ok (.istore_n 3, 1) := by decide +kernel
theorem dX9_settleMarks_25 : decode cX9_settleMarks 25 = .ok (.iconst 0, 1) := by decide +kernel
theorem dX9_settleMarks_26 : decode cX9_settleMarks 26 = .ok (.istore 4, 2) := by decide +kernel
theorem dX9_settleMarks_28 : decode cX9_settleMarks 28 = .ok (.iload 4, 2) := by decide +kernel
theorem dX9_settleMarks_30 : decode cX9_settleMarks 30 = .ok (.bipush 8, 2) := by decide +kernel
theorem dX9_settleMarks_32 : decode cX9_settleMarks 32 = .ok (.iload_n 1, 1) := by decide +kernel
theorem dX9_settleMarks_33 : decode cX9_settleMarks 33 = .ok (.iadd, 1) := by decide +kernel
theorem dX9_settleMarks_34 : decode cX9_settleMarks 34 = .ok (.if_icmp .ge 51, 3) := by decide +kernel
theorem dX9_settleMarks_37 : decode cX9_settleMarks 37 = .ok (.aload_n 2, 1) := by decide +kernel
theorem dX9_settleMarks_38 : decode cX9_settleMarks 38 = .ok (.iload 4, 2) := by decide +kernel
theorem dX9_settleMarks_40 : decode cX9_settleMarks 40 = .ok (.invokevirtual 59, 3) := by decide +kernel
theorem dX9_settleMarks_43 : decode cX9_settleMarks 43 = .ok (.ifCond .eq 36, 3) := by decide +kernel
theorem dX9_settleMarks_46 : decode cX9_settleMarks 46 = .ok (.aload_n 0, 1) := by decide +kernel
theorem dX9_settleMarks_47 : decode cX9_settleMarks 47 = .ok (.getfield 11, 3) := by decide +kernel
theorem dX9_settleMarks_50 : decode cX9_settleMarks 50 = .ok (.iload 4, 2) := by decide +kernel
theorem dX9_settleMarks_52 : decode cX9_settleMarks 52 = .ok (.aaload, 1) := by decide +kernel
theorem dX9_settleMarks_53 : decode cX9_settleMarks 53 = .ok (.getfield 117, 3) := by decide +kernel
theorem dX9_settleMarks_56 : decode cX9_settleMarks 56 = .ok (.ifCond .ne 23, 3) := by decide +kernel
theorem dX9_settleMarks_59 : decode cX9_settleMarks 59 = .ok (.aload_n 2, 1) := by decide +kernel
theorem dX9_settleMarks_60 : decode cX9_settleMarks 60 = .ok (.iconst 0, 1) := by decide +kernel
theorem dX9_settleMarks_61 : decode cX9_settleMarks 61 = .ok (.putfield 173, 3) := by decide +kernel
theorem dX9_settleMarks_64 : decode cX9_settleMarks 64 = .ok (.iload_n 3, 1) := by decide +kernel
theorem dX9_settleMarks_65 : decode cX9_settleMarks 65 = .ok (.aload_n 0, 1) := by decide +kernel
theorem dX9_settleMarks_66 : decode cX9_settleMarks 66 = .ok (.getfield 11, 3) := by decide +kernel
theorem dX9_settleMarks_69 : decode cX9_settleMarks 69 = .ok (.iload 4, 2) := by decide +kernel
theorem dX9_settleMarks_71 : decode cX9_settleMarks 71 = .ok (.aaload, 1) := by decide +kernel
theorem dX9_settleMarks_72 : decode cX9_settleMarks 72 = .ok (.getfield 114, 3) := by decide +kernel
theorem dX9_settleMarks_75 : decode cX9_settleMarks 75 = .ok (.invokestatic 214, 3) := by decide +kernel
theorem dX9_settleMarks_78 : decode cX9_settleMarks 78 = .ok (.istore_n 3, 1) := by decide +kernel
theorem dX9_settleMarks_79 : decode cX9_settleMarks 79 = .ok (.iinc 4 1, 3) := by decide +kernel
theorem dX9_settleMarks_82 : decode cX9_settleMarks 82 = .ok (.goto (-54), 3) := by decide +kernel
theorem dX9_settleMarks_85 : decode cX9_settleMarks 85 = .ok (.aload_n 2, 1) := by decide +kernel
theorem dX9_settleMarks_86 : decode cX9_settleMarks 86 = .ok (.getfield 173, 3) := by decide +kernel
theorem dX9_settleMarks_89 : decode cX9_settleMarks 89 = .ok (.ifCond .ne 16, 3) := by decide +kernel
theorem dX9_settleMarks_92 : decode cX9_settleMarks 92 = .ok (.iload_n 3, 1) := by decide +kernel
theorem dX9_settleMarks_93 : decode cX9_settleMarks 93 = .ok (.aload_n 2, 1) := by decide +kernel
theorem dX9_settleMarks_94 : decode cX9_settleMarks 94 = .ok (.getfield 163, 3) := by decide +kernel
theorem dX9_settleMarks_97 : decode cX9_settleMarks 97 = .ok (.if_icmp .le 8, 3) := by decide +kernel
theorem dX9_settleMarks_100 : decode cX9_settleMarks 100 = .ok (.aload_n 2, 1) := by decide +kernel
theorem dX9_settleMarks_101 : decode cX9_settleMarks 101 = .ok (.iload_n 3, 1) := by decide +kernel
theorem dX9_settleMarks_102 : decode cX9_settleMarks 102 = .ok (.invokevirtual 217, 3) := by decide +kernel
theorem dX9_settleMarks_105 : decode cX9_settleMarks 105 = .ok (.iinc 1 1, 3) := by decide +kernel
theorem dX9_settleMarks_108 : decode cX9_settleMarks 108 = .ok (.goto (-106), 3) := by decide +kernel
theorem dX9_settleMarks_111 : decode cX9_settleMarks 111 = .ok (.return_, 1) := by decide +kernel
theorem dX10_init_0 : decode cX10_init 0 = .ok (.aload_n 0, 1) := by decide +kernel
theorem dX10_init_1 : decode cX10_init 1 = .ok (.invokespecial 1, 3) := by decide +kernel
theorem dX10_init_4 : decode cX10_init 4 = .ok (.aload_n 0, 1) := by decide +kernel
theorem dX10_init_5 : decode cX10_init 5 = .ok (.bipush 8, 2) := by decide +kernel
theorem dX10_init_7 : decode cX10_init 7 = .ok (.newarray .int, 2) := by decide +kernel
theorem dX10_init_9 : decode cX10_init 9 = .ok (.putfield 9, 3) := by decide +kernel
theorem dX10_init_12 : decode cX10_init 12 = .ok (.aload_n 0, 1) := by decide +kernel
theorem dX10_init_13 : decode cX10_init 13 = .ok (.bipush 8, 2) := by decide +kernel
theorem dX10_init_15 : decode cX10_init 15 = .ok (.newarray .boolean, 2) := by decide +kernel
theorem dX10_init_17 : decode cX10_init 17 = .ok (.putfield 13, 3) := by decide +kernel
theorem dX10_init_20 : decode cX10_init 20 = .ok (.aload_n 0, 1) := by decide +kernel
theorem dX10_init_21 : decode cX10_init 21 = .ok (.bipush 16, 2) := by decide +kernel
theorem dX10_init_23 : decode cX10_init 23 = .ok (.newarray .int, 2) := by decide +kernel
theorem dX10_init_25 : decode cX10_init 25 = .ok (.putfield 17, 3) := by decide +kernel
theorem dX10_init_28 : decode cX10_init 28 = .ok (.aload_n 0, 1) := by decide +kernel
theorem dX10_init_29 : decode cX10_init 29 = .ok (.bipush 16, 2) := by decide +kernel
theorem dX10_init_31 : decode cX10_init 31 = .ok (.newarray .int, 2) := by decide +kernel
theorem dX10_init_33 : decode cX10_init 33 = .ok (.putfield 20, 3) := by decide +kernel
theorem dX10_init_36 : decode cX10_init 36 = .ok (.aload_n 0, 1) := by decide +kernel
theorem dX10_init_37 : decode cX10_init 37 = .ok (.bipush 16, 2) := by decide +kernel
theorem dX10_init_39 : decode cX10_init 39 = .ok (.newarray .int, 2) := by decide +kernel
theorem dX10_init_41 : decode cX10_init 41 = .ok (.putfield 23, 3) := by decide +kernel
theorem dX10_init_44 : decode cX10_init 44 = .ok (.aload_n 0, 1) := by decide +kernel
theorem dX10_init_45 : decode cX10_init 45 = .ok (.bipush 16, 2) := by decide +kernel
theorem dX10_init_47 : decode cX10_init 47 = .ok (.newarray .int, 2) := by decide +kernel
theorem dX10_init_49 : decode cX10_init 49 = .ok (.putfield 26, 3) := by decide +kernel
theorem dX10_init_52 : decode cX10_init 52 = .ok (.aload_n 0, 1) := by decide +kernel
theorem dX10_init_53 : decode cX10_init 53 = .ok (.bipush 16, 2) := by decide +kernel
theorem dX10_init_55 : decode cX10_init 55 = .ok (.newarray .boolean, 2) := by decide +kernel
theorem dX10_init_57 : decode cX10_init 57 = .ok (.putfield 29, 3) := by decide +kernel
theorem dX10_init_60 : decode cX10_init 60 = .ok (.aload_n 0, 1) := by decide +kernel
theorem dX10_init_61 : decode cX10_init 61 = .ok (.sipush 384, 3) := by decide +kernel
theorem dX10_init_64 : decode cX10_init 64 = .ok (.newarray .boolean, 2) := by decide +kernel
theorem dX10_init_66 : decode cX10_init 66 = .ok (.putfield 32, 3) := by decide +kernel
theorem dX10_init_69 : decode cX10_init 69 = .ok (.aload_n 0, 1) := by decide +kernel
theorem dX10_init_70 : decode cX10_init 70 = .ok (.bipush 16, 2) := by decide +kernel
theorem dX10_init_72 : decode cX10_init 72 = .ok (.newarray .int, 2) := by decide +kernel
theorem dX10_init_74 : decode cX10_init 74 = .ok (.putfield 35, 3) := by decide +kernel
theorem dX10_init_77 : decode cX10_init 77 = .ok (.aload_n 0, 1) := by decide +kernel
theorem dX10_init_78 : decode cX10_init 78 = .ok (.bipush 16, 2) := by decide +kernel
theorem dX10_init_80 : decode cX10_init 80 = .ok (.newarray .int, 2) := by decide +kernel
theorem dX10_init_82 : decode cX10_init 82 = .ok (.putfield 38, 3) := by decide +kernel
theorem dX10_init_85 : decode cX10_init 85 = .ok (.aload_n 0, 1) := by decide +kernel
theorem dX10_init_86 : decode cX10_init 86 = .ok (.bipush 16, 2) := by decide +kernel
theorem dX10_init_88 : decode cX10_init 88 = .ok (.newarray .int, 2) := by decide +kernel
theorem dX10_init_90 : decode cX10_init 90 = .ok (.putfield 41, 3) := by decide +kernel
theorem dX10_init_93 : decode cX10_init 93 = .ok (.aload_n 0, 1) := by decide +kernel
theorem dX10_init_94 : decode cX10_init 94 = .ok (.bipush 16, 2) := by decide +kernel
theorem dX10_init_96 : decode cX10_init 96 = .ok (.newarray .int, 2) := by decide +kernel
theorem dX10_init_98 : decode cX10_init 98 = .ok (.putfield 44, 3) := by decide +kernel
theorem dX10_init_101 : decode cX10_init 101 = .ok (.aload_n 0, 1) := by decide +kernel
theorem dX10_init_102 : decode cX10_init 102 = .ok (.bipush 16, 2) := by decide +kernel
theorem dX10_init_104 : decode cX10_init 104 = .ok (.newarray .int, 2) := by decide +kernel
theorem dX10_init_106 : decode cX10_init 106 = .ok (.putfield 47, 3) := by decide +kernel
theorem dX10_init_109 : decode cX10_init 109 = .ok (.aload_n 0, 1) := by decide +kernel
theorem dX10_init_110 : decode cX10_init 110 = .ok (.bipush 16, 2) := by decide +kernel
theorem dX10_init_112 : decode cX10_init 112 = .ok (.newarray .int, 2) := by decide +kernel
theorem dX10_init_114 : decode cX10_init 114 = .ok (.putfield 50, 3) := by decide +kernel
theorem dX10_init_117 : decode cX10_init 117 = .ok (.aload_n 0, 1) := by decide +kernel
theorem dX10_init_118 : decode cX10_init 118 = .ok (.bipush 16, 2) := by decide +kernel
theorem dX10_init_120 : decode cX10_init 120 = .ok (.newarray .boolean, 2) := by decide +kernel
theorem dX10_init_122 : decode cX10_init 122 = .ok (.putfield 53, 3) := by decide +kernel
theorem dX10_init_125 : decode cX10_init 125 = .ok (.aload_n 0, 1) := by decide +kernel
theorem dX10_init_126 : decode cX10_init 126 = .ok (.bipush 16, 2) := by decide +kernel
theorem dX10_init_128 : decode cX10_init 128 = .ok (.newarray .int, 2) := by decide +kernel
theorem dX10_init_130 : decode cX10_init 130 = .ok (.putfield 56, 3) := by decide +kernel
theorem dX10_init_133 : decode cX10_init 133 = .ok (.aload_n 0, 1) := by decide +kernel
theorem dX10_init_134 : decode cX10_init 134 = .ok (.bipush 16, 2) := by decide +kernel
theorem dX10_init_136 : decode cX10_init 136 = .ok (.newarray .int, 2) := by decide +kernel
theorem dX10_init_138 : decode cX10_init 138 = .ok (.putfield 59, 3) := by decide +kernel
theorem dX10_init_141 : decode cX10_init 141 = .ok (.aload_n 0, 1) := by decide +kernel
theorem dX10_init_142 : decode cX10_init 142 = .ok (.bipush 16, 2) := by decide +kernel
theorem dX10_init_144 : decode cX10_init 144 = .ok (.newarray .long, 2) := by decide +kernel
theorem dX10_init_146 : decode cX10_init 146 = .ok (.putfield 62, 3) := by decide +kernel
theorem dX10_init_149 : decode cX10_init 149 = .ok (.aload_n 0, 1) := by decide +kernel
theorem dX10_init_150 : decode cX10_init 150 = .ok (.ldc 66, 2) := by decide +kernel
theorem dX10_init_152 : decode cX10_init 152 = .ok (.newarray .int, 2) := by decide +kernel
theorem dX10_init_154 : decode cX10_init 154 = .ok (.putfield 67, 3) := by decide +kernel
theorem dX10_init_157 : decode cX10_init 157 = .ok (.aload_n 0, 1) := by decide +kernel
theorem dX10_init_158 : decode cX10_init 158 = .ok (.ldc 66, 2) := by decide +kernel
theorem dX10_init_160 : decode cX10_init 160 = .ok (.newarray .int, 2) := by decide +kernel
theorem dX10_init_162 : decode cX10_init 162 = .ok (.putfield 70, 3) := by decide +kernel
theorem dX10_init_165 : decode cX10_init 165 = .ok (.aload_n 0, 1) := by decide +kernel
theorem dX10_init_166 : decode cX10_init 166 = .ok (.ldc 66, 2) := by decide +kernel
theorem dX10_init_168 : decode cX10_init 168 = .ok (.newarray .int, 2) := by decide +kernel
theorem dX10_init_170 : decode cX10_init 170 = .ok (.putfield 73, 3) := by decide +kernel
theorem dX10_init_173 : decode cX10_init 173 = .ok (.aload_n 0, 1) := by decide +kernel
theorem dX10_init_174 : decode cX10_init 174 = .ok (.ldc 66, 2) := by decide +kernel
theorem dX10_init_176 : decode cX10_init 176 = .ok (.newarray .int, 2) := by decide +kernel
theorem dX10_init_178 : decode cX10_init 178 = .ok (.putfield 76, 3) := by decide +kernel
theorem dX10_init_181 : decode cX10_init 181 = .ok (.aload_n 0, 1) := by decide +kernel
theorem dX10_init_182 : decode cX10_init 182 = .ok (.ldc 66, 2) := by decide +kernel
theorem dX10_init_184 : decode cX10_init 184 = .ok (.newarray .boolean, 2) := by decide +kernel
theorem dX10_init_186 : decode cX10_init 186 = .ok (.putfield 79, 3) := by decide +kernel
theorem dX10_init_189 : decode cX10_init 189 = .ok (.aload_n 0, 1) := by decide +kernel
theorem dX10_init_190 : decode cX10_init 190 = .ok (.ldc 66, 2) := by decide +kernel
theorem dX10_init_192 : decode cX10_init 192 = .ok (.newarray .int, 2) := by decide +kernel
theorem dX10_init_194 : decode cX10_init 194 = .ok (.putfield 82, 3) := by decide +kernel
theorem dX10_init_197 : decode cX10_init 197 = .ok (.aload_n 0, 1) := by decide +kernel
theorem dX10_init_198 : decode cX10_init 198 = .ok (.ldc 66, 2) := by decide +kernel
theorem dX10_init_200 : decode cX10_init 200 = .ok (.newarray .int, 2) := by decide +kernel
theorem dX10_init_202 : decode cX10_init 202 = .ok (.putfield 85, 3) := by decide +kernel
theorem dX10_init_205 : decode cX10_init 205 = .ok (.aload_n 0, 1) := by decide +kernel
theorem dX10_init_206 : decode cX10_init 206 = .ok (.ldc 66, 2) := by decide +kernel
theorem dX10_init_208 : decode cX10_init 208 = .ok (.newarray .int, 2) := by decide +kernel
theorem dX10_init_210 : decode cX10_init 210 = .ok (.putfield 88, 3) := by decide +kernel
theorem dX10_init_213 : decode cX10_init 213 = .ok (.aload_n 0, 1) := by decide +kernel
theorem dX10_init_214 : decode cX10_init 214 = .ok (.ldc 66, 2) := by decide +kernel
theorem dX10_init_216 : decode cX10_init 216 = .ok (.newarray .long, 2) := by decide +kernel
theorem dX10_init_218 : decode cX10_init 218 = .ok (.putfield 91, 3) := by decide +kernel
theorem dX10_init_221 : decode cX10_init 221 = .ok (.aload_n 0, 1) := by decide +kernel
theorem dX10_init_222 : decode cX10_init 222 = .ok (.ldc 66, 2) := by decide +kernel
theorem dX10_init_224 : decode cX10_init 224 = .ok (.newarray .int, 2) := by decide +kernel
theorem dX10_init_226 : decode cX10_init 226 = .ok (.putfield 94, 3) := by decide +kernel
theorem dX10_init_229 : decode cX10_init 229 = .ok (.aload_n 0, 1) := by decide +kernel
theorem dX10_init_230 : decode cX10_init 230 = .ok (.ldc 97, 2) := by decide +kernel
theorem dX10_init_232 : decode cX10_init 232 = .ok (.newarray .int, 2) := by decide +kernel
theorem dX10_init_234 : decode cX10_init 234 = .ok (.putfield 98, 3) := by decide +kernel
theorem dX10_init_237 : decode cX10_init 237 = .ok (.aload_n 0, 1) := by decide +kernel
theorem dX10_init_238 : decode cX10_init 238 = .ok (.ldc 97, 2) := by decide +kernel
theorem dX10_init_240 : decode cX10_init 240 = .ok (.newarray .int, 2) := by decide +kernel
theorem dX10_init_242 : decode cX10_init 242 = .ok (.putfield 101, 3) := by decide +kernel
theorem dX10_init_245 : decode cX10_init 245 = .ok (.aload_n 0, 1) := by decide +kernel
theorem dX10_init_246 : decode cX10_init 246 = .ok (.ldc 97, 2) := by decide +kernel
theorem dX10_init_248 : decode cX10_init 248 = .ok (.newarray .int, 2) := by decide +kernel
theorem dX10_init_250 : decode cX10_init 250 = .ok (.putfield 104, 3) := by decide +kernel
theorem dX10_init_253 : decode cX10_init 253 = .ok (.aload_n 0, 1) := by decide +kernel
theorem dX10_init_254 : decode cX10_init 254 = .ok (.ldc 97, 2) := by decide +kernel
theorem dX10_init_256 : decode cX10_init 256 = .ok (.newarray .int, 2) := by decide +kernel
theorem dX10_init_258 : decode cX10_init 258 = .ok (.putfield 107, 3) := by decide +kernel
theorem dX10_init_261 : decode cX10_init 261 = .ok (.aload_n 0, 1) := by decide +kernel
theorem dX10_init_262 : decode cX10_init 262 = .ok (.ldc 97, 2) := by decide +kernel
theorem dX10_init_264 : decode cX10_init 264 = .ok (.newarray .int, 2) := by decide +kernel
theorem dX10_init_266 : decode cX10_init 266 = .ok (.putfield 110, 3) := by decide +kernel
theorem dX10_init_269 : decode cX10_init 269 = .ok (.aload_n 0, 1) := by decide +kernel
theorem dX10_init_270 : decode cX10_init 270 = .ok (.ldc 97, 2) := by decide +kernel
theorem dX10_init_272 : decode cX10_init 272 = .ok (.newarray .long, 2) := by decide +kernel
theorem dX10_init_274 : decode cX10_init 274 = .ok (.putfield 113, 3) := by decide +kernel
theorem dX10_init_277 : decode cX10_init 277 = .ok (.aload_n 0, 1) := by decide +kernel
theorem dX10_init_278 : decode cX10_init 278 = .ok (.sipush 12004, 3) := by decide +kernel
theorem dX10_init_281 : decode cX10_init 281 = .ok (.newarray .long, 2) := by decide +kernel
theorem dX10_init_283 : decode cX10_init 283 = .ok (.putfield 116, 3) := by decide +kernel
theorem dX10_init_286 : decode cX10_init 286 = .ok (.aload_n 0, 1) := by decide +kernel
theorem dX10_init_287 : decode cX10_init 287 = .ok (.ldc 66, 2) := by decide +kernel
theorem dX10_init_289 : decode cX10_init 289 = .ok (.newarray .int, 2) := by decide +kernel
theorem dX10_init_291 : decode cX10_init 291 = .ok (.putfield 119, 3) := by decide +kernel
theorem dX10_init_294 : decode cX10_init 294 = .ok (.return_, 1) := by decide +kernel
theorem dX10_is_0 : decode cX10_is 0 = .ok (.iload_n 1, 1) := by decide +kernel
theorem dX10_is_1 : decode cX10_is 1 = .ok (.ifCond .lt 15, 3) := by decide +kernel
theorem dX10_is_4 : decode cX10_is 4 = .ok (.iload_n 1, 1) := by decide +kernel
theorem dX10_is_5 : decode cX10_is 5 = .ok (.aload_n 0, 1) := by decide +kernel
theorem dX10_is_6 : decode cX10_is 6 = .ok (.getfield 122, 3) := by decide +kernel
theorem dX10_is_9 : decode cX10_is 9 = .ok (.if_icmp .ge 7, 3) := by decide +kernel
theorem dX10_is_12 : decode cX10_is 12 = .ok (.iconst 1, 1) := by decide +kernel
theorem dX10_is_13 : decode cX10_is 13 = .ok (.goto 4, 3) := by decide +kernel
theorem dX10_is_16 : decode cX10_is 16 = .ok (.iconst 0, 1) := by decide +kernel
theorem dX10_is_17 : decode cX10_is 17 = .ok (.ireturn, 1) := by decide +kernel
theorem dX10_isPort_0 : decode cX10_isPort 0 = .ok (.iload_n 0, 1) := by decide +kernel
theorem dX10_isPort_1 : decode cX10_isPort 1 = .ok (.ifCond .lt 13, 3) := by decide +kernel
theorem dX10_isPort_4 : decode cX10_isPort 4 = .ok (.iload_n 0, 1) := by decide +kernel
theorem dX10_isPort_5 : decode cX10_isPort 5 = .ok (.bipush 8, 2) := by decide +kernel
theorem dX10_isPort_7 : decode cX10_isPort 7 = .ok (.if_icmp .ge 7, 3) := by decide +kernel
theorem dX10_isPort_10 : decode cX10_isPort 10 = .ok (.iconst 1, 1) := by decide +kernel
theorem dX10_isPort_11 : decode cX10_isPort 11 = .ok (.goto 4, 3) := by decide +kernel
theorem dX10_isPort_14 : decode cX10_isPort 14 = .ok (.iconst 0, 1) := by decide +kernel
theorem dX10_isPort_15 : decode cX10_isPort 15 = .ok (.ireturn, 1) := by decide +kernel
theorem dX10_isWindowed_0 : decode cX10_isWindowed 0 = .ok (.aload_n 0, 1) := by decide +kernel
theorem dX10_isWindowed_1 : decode cX10_isWindowed 1 = .ok (.getfield 17, 3) := by decide +kernel
theorem dX10_isWindowed_4 : decode cX10_isWindowed 4 = .ok (.iload_n 1, 1) := by decide +kernel
theorem dX10_isWindowed_5 : decode cX10_isWindowed 5 = .ok (.iaload, 1) := by decide +kernel
theorem dX10_isWindowed_6 : decode cX10_isWindowed 6 = .ok (.iconst 4, 1) := by decide +kernel
theorem dX10_isWindowed_7 : decode cX10_isWindowed 7 = .ok (.if_icmp .lt 7, 3) := by decide +kernel
theorem dX10_isWindowed_10 : decode cX10_isWindowed 10 = .ok (.iconst 1, 1) := by decide +kernel
theorem dX10_isWindowed_11 : decode cX10_isWindowed 11 = .ok (.goto 4, 3) := by decide +kernel
theorem dX10_isWindowed_14 : decode cX10_isWindowed 14 = .ok (.iconst 0, 1) := by decide +kernel
theorem dX10_isWindowed_15 : decode cX10_isWindowed 15 = .ok (.ireturn, 1) := by decide +kernel
theorem dX10_isRight_0 : decode cX10_isRight 0 = .ok (.iload_n 0, 1) := by decide +kernel
theorem dX10_isRight_1 : decode cX10_isRight 1 = .ok (.tableswitch 129 0 5 #[39, 56, 56, 58, 76, 94], 39) := by decide +kernel
theorem dX10_isRight_40 : decode cX10_isRight 40 = .ok (.iload_n 2, 1) := by decide +kernel
theorem dX10_isRight_41 : decode cX10_isRight 41 = .ok (.ifCond .lt 14, 3) := by decide +kernel
theorem dX10_isRight_44 : decode cX10_isRight 44 = .ok (.iload_n 2, 1) := by decide +kernel
theorem dX10_isRight_45 : decode cX10_isRight 45 = .ok (.sipush 1000, 3) := by decide +kernel
theorem dX10_isRight_48 : decode cX10_isRight 48 = .ok (.if_icmp .gt 7, 3) := by decide +kernel
theorem dX10_isRight_51 : decode cX10_isRight 51 = .ok (.iconst 1, 1) := by decide +kernel
theorem dX10_isRight_52 : decode cX10_isRight 52 = .ok (.goto 4, 3) := by decide +kernel
theorem dX10_isRight_55 : decode cX10_isRight 55 = .ok (.iconst 0, 1) := by decide +kernel
theorem dX10_isRight_56 : decode cX10_isRight 56 = .ok (.ireturn, 1) := by decide +kernel
theorem dX10_isRight_57 : decode cX10_isRight 57 = .ok (.iconst 1, 1) := by decide +kernel
theorem dX10_isRight_58 : decode cX10_isRight 58 = .ok (.ireturn, 1) := by decide +kernel
theorem dX10_isRight_59 : decode cX10_isRight 59 = .ok (.iload_n 1, 1) := by decide +kernel
theorem dX10_isRight_60 : decode cX10_isRight 60 = .ok (.iconst 1, 1) := by decide +kernel
theorem dX10_isRight_61 : decode cX10_isRight 61 = .ok (.if_icmp .lt 14, 3) := by decide +kernel
theorem dX10_isRight_64 : decode cX10_isRight 64 = .ok (.iload_n 1, 1) := by decide +kernel
theorem dX10_isRight_65 : decode cX10_isRight 65 = .ok (.sipush 1000, 3) := by decide +kernel
theorem dX10_isRight_68 : decode cX10_isRight 68 = .ok (.if_icmp .gt 7, 3) := by decide +kernel
theorem dX10_isRight_71 : decode cX10_isRight 71 = .ok (.iconst 1, 1) := by decide +kernel
theorem dX10_isRight_72 : decode cX10_isRight 72 = .ok (.goto 4, 3) := by decide +kernel
theorem dX10_isRight_75 : decode cX10_isRight 75 = .ok (.iconst 0, 1) := by decide +kernel
theorem dX10_isRight_76 : decode cX10_isRight 76 = .ok (.ireturn, 1) := by decide +kernel
theorem dX10_isRight_77 : decode cX10_isRight 77 = .ok (.iload_n 1, 1) := by decide +kernel
theorem dX10_isRight_78 : decode cX10_isRight 78 = .ok (.iconst 1, 1) := by decide +kernel
theorem dX10_isRight_79 : decode cX10_isRight 79 = .ok (.if_icmp .lt 14, 3) := by decide +kernel
theorem dX10_isRight_82 : decode cX10_isRight 82 = .ok (.iload_n 1, 1) := by decide +kernel
theorem dX10_isRight_83 : decode cX10_isRight 83 = .ok (.sipush 10000, 3) := by decide +kernel
theorem dX10_isRight_86 : decode cX10_isRight 86 = .ok (.if_icmp .gt 7, 3) := by decide +kernel
theorem dX10_isRight_89 : decode cX10_isRight 89 = .ok (.iconst 1, 1) := by decide +kernel
theorem dX10_isRight_90 : decode cX10_isRight 90 = .ok (.goto 4, 3) := by decide +kernel
theorem dX10_isRight_93 : decode cX10_isRight 93 = .ok (.iconst 0, 1) := by decide +kernel
theorem dX10_isRight_94 : decode cX10_isRight 94 = .ok (.ireturn, 1) := by decide +kernel
theorem dX10_isRight_95 : decode cX10_isRight 95 = .ok (.iload_n 1, 1) := by decide +kernel
theorem dX10_isRight_96 : decode cX10_isRight 96 = .ok (.iconst 1, 1) := by decide +kernel
theorem dX10_isRight_97 : decode cX10_isRight 97 = .ok (.if_icmp .lt 31, 3) := by decide +kernel
theorem dX10_isRight_100 : decode cX10_isRight 100 = .ok (.iload_n 1, 1) := by decide +kernel
theorem dX10_isRight_101 : decode cX10_isRight 101 = .ok (.sipush 10000, 3) := by decide +kernel
theorem dX10_isRight_104 : decode cX10_isRight 104 = .ok (.if_icmp .gt 24, 3) := by decide +kernel
theorem dX10_isRight_107 : decode cX10_isRight 107 = .ok (.iload_n 2, 1) := by decide +kernel
theorem dX10_isRight_108 : decode cX10_isRight 108 = .ok (.iconst 1, 1) := by decide +kernel
theorem dX10_isRight_109 : decode cX10_isRight 109 = .ok (.if_icmp .lt 19, 3) := by decide +kernel
theorem dX10_isRight_112 : decode cX10_isRight 112 = .ok (.iload_n 2, 1) := by decide +kernel
theorem dX10_isRight_113 : decode cX10_isRight 113 = .ok (.iload_n 1, 1) := by decide +kernel
theorem dX10_isRight_114 : decode cX10_isRight 114 = .ok (.if_icmp .gt 14, 3) := by decide +kernel
theorem dX10_isRight_117 : decode cX10_isRight 117 = .ok (.iload_n 1, 1) := by decide +kernel
theorem dX10_isRight_118 : decode cX10_isRight 118 = .ok (.iconst 4, 1) := by decide +kernel
theorem dX10_isRight_119 : decode cX10_isRight 119 = .ok (.iload_n 2, 1) := by decide +kernel
theorem dX10_isRight_120 : decode cX10_isRight 120 = .ok (.imul, 1) := by decide +kernel
theorem dX10_isRight_121 : decode cX10_isRight 121 = .ok (.if_icmp .gt 7, 3) := by decide +kernel
theorem dX10_isRight_124 : decode cX10_isRight 124 = .ok (.iconst 1, 1) := by decide +kernel
theorem dX10_isRight_125 : decode cX10_isRight 125 = .ok (.goto 4, 3) := by decide +kernel
theorem dX10_isRight_128 : decode cX10_isRight 128 = .ok (.iconst 0, 1) := by decide +kernel
theorem dX10_isRight_129 : decode cX10_isRight 129 = .ok (.ireturn, 1) := by decide +kernel
theorem dX10_isRight_130 : decode cX10_isRight 130 = .ok (.iload_n 1, 1) := by decide +kernel
theorem dX10_isRight_131 : decode cX10_isRight 131 = .ok (.ifCond .lt 14, 3) := by decide +kernel
theorem dX10_isRight_134 : decode cX10_isRight 134 = .ok (.iload_n 1, 1) := by decide +kernel
theorem dX10_isRight_135 : decode cX10_isRight 135 = .ok (.sipush 10000, 3) := by decide +kernel
theorem dX10_isRight_138 : decode cX10_isRight 138 = .ok (.if_icmp .gt 7, 3) := by decide +kernel
theorem dX10_isRight_141 : decode cX10_isRight 141 = .ok (.iconst 1, 1) := by decide +kernel
theorem dX10_isRight_142 : decode cX10_isRight 142 = .ok (.goto 4, 3) := by decide +kernel
theorem dX10_isRight_145 : decode cX10_isRight 145 = .ok (.iconst 0, 1) := by decide +kernel
theorem dX10_isRight_146 : decode cX10_isRight 146 = .ok (.ireturn, 1) := by decide +kernel
theorem dX10_stage_0 : decode cX10_stage 0 = .ok (.iload_n 1, 1) := by decide +kernel
theorem dX10_stage_1 : decode cX10_stage 1 = .ok (.ifCond .lt 18, 3) := by decide +kernel
theorem dX10_stage_4 : decode cX10_stage 4 = .ok (.iload_n 1, 1) := by decide +kernel
theorem dX10_stage_5 : decode cX10_stage 5 = .ok (.bipush 6, 2) := by decide +kernel
theorem dX10_stage_7 : decode cX10_stage 7 = .ok (.if_icmp .gt 12, 3) := by decide +kernel
