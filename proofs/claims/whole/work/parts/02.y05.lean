theorem dX10_burst_21 : decode cX10_burst 21 = .ok (.if_icmp .lt 11, 3) := by decide +kernel
theorem dX10_burst_24 : decode cX10_burst 24 = .ok (.iload 6, 2) := by decide +kernel
theorem dX10_burst_26 : decode cX10_burst 26 = .ok (.sipush 200, 3) := by decide +kernel
theorem dX10_burst_29 : decode cX10_burst 29 = .ok (.if_icmp .le 5, 3) := by decide +kernel
theorem dX10_burst_32 : decode cX10_burst 32 = .ok (.iconst (-1), 1) := by decide +kernel
theorem dX10_burst_33 : decode cX10_burst 33 = .ok (.ireturn, 1) := by decide +kernel
theorem dX10_burst_34 : decode cX10_burst 34 = .ok (.iconst 0, 1) := by decide +kernel
theorem dX10_burst_35 : decode cX10_burst 35 = .ok (.istore 7, 2) := by decide +kernel
theorem dX10_burst_37 : decode cX10_burst 37 = .ok (.iload 7, 2) := by decide +kernel
theorem dX10_burst_39 : decode cX10_burst 39 = .ok (.iload 6, 2) := by decide +kernel
theorem dX10_burst_41 : decode cX10_burst 41 = .ok (.if_icmp .ge 80, 3) := by decide +kernel
theorem dX10_burst_44 : decode cX10_burst 44 = .ok (.iload_n 3, 1) := by decide +kernel
theorem dX10_burst_45 : decode cX10_burst 45 = .ok (.i2l, 1) := by decide +kernel
theorem dX10_burst_46 : decode cX10_burst 46 = .ok (.iload 7, 2) := by decide +kernel
theorem dX10_burst_48 : decode cX10_burst 48 = .ok (.i2l, 1) := by decide +kernel
theorem dX10_burst_49 : decode cX10_burst 49 = .ok (.iload 4, 2) := by decide +kernel
theorem dX10_burst_51 : decode cX10_burst 51 = .ok (.i2l, 1) := by decide +kernel
theorem dX10_burst_52 : decode cX10_burst 52 = .ok (.lmul, 1) := by decide +kernel
theorem dX10_burst_53 : decode cX10_burst 53 = .ok (.ladd, 1) := by decide +kernel
theorem dX10_burst_54 : decode cX10_burst 54 = .ok (.lstore 8, 2) := by decide +kernel
theorem dX10_burst_56 : decode cX10_burst 56 = .ok (.lload 8, 2) := by decide +kernel
theorem dX10_burst_58 : decode cX10_burst 58 = .ok (.lconst 0, 1) := by decide +kernel
theorem dX10_burst_59 : decode cX10_burst 59 = .ok (.lcmp, 1) := by decide +kernel
theorem dX10_burst_60 : decode cX10_burst 60 = .ok (.ifCond .lt 22, 3) := by decide +kernel
theorem dX10_burst_63 : decode cX10_burst 63 = .ok (.lload 8, 2) := by decide +kernel
theorem dX10_burst_65 : decode cX10_burst 65 = .ok (.ldc2_w 244, 3) := by decide +kernel
theorem dX10_burst_68 : decode cX10_burst 68 = .ok (.lcmp, 1) := by decide +kernel
theorem dX10_burst_69 : decode cX10_burst 69 = .ok (.ifCond .gt 13, 3) := by decide +kernel
theorem dX10_burst_72 : decode cX10_burst 72 = .ok (.aload_n 0, 1) := by decide +kernel
theorem dX10_burst_73 : decode cX10_burst 73 = .ok (.getfield 241, 3) := by decide +kernel
theorem dX10_burst_76 : decode cX10_burst 76 = .ok (.sipush 3000, 3) := by decide +kernel
theorem dX10_burst_79 : decode cX10_burst 79 = .ok (.if_icmp .ne 6, 3) := by decide +kernel
theorem dX10_burst_82 : decode cX10_burst 82 = .ok (.iload 7, 2) := by decide +kernel
theorem dX10_burst_84 : decode cX10_burst 84 = .ok (.ireturn, 1) := by decide +kernel
theorem dX10_burst_85 : decode cX10_burst 85 = .ok (.aload_n 0, 1) := by decide +kernel
theorem dX10_burst_86 : decode cX10_burst 86 = .ok (.dup, 1) := by decide +kernel
theorem dX10_burst_87 : decode cX10_burst 87 = .ok (.getfield 241, 3) := by decide +kernel
theorem dX10_burst_90 : decode cX10_burst 90 = .ok (.iconst 1, 1) := by decide +kernel
theorem dX10_burst_91 : decode cX10_burst 91 = .ok (.iadd, 1) := by decide +kernel
theorem dX10_burst_92 : decode cX10_burst 92 = .ok (.putfield 241, 3) := by decide +kernel
theorem dX10_burst_95 : decode cX10_burst 95 = .ok (.aload_n 0, 1) := by decide +kernel
theorem dX10_burst_96 : decode cX10_burst 96 = .ok (.iload_n 1, 1) := by decide +kernel
theorem dX10_burst_97 : decode cX10_burst 97 = .ok (.iload_n 2, 1) := by decide +kernel
theorem dX10_burst_98 : decode cX10_burst 98 = .ok (.sipush 1000, 3) := by decide +kernel
theorem dX10_burst_101 : decode cX10_burst 101 = .ok (.irem, 1) := by decide +kernel
theorem dX10_burst_102 : decode cX10_burst 102 = .ok (.lload 8, 2) := by decide +kernel
theorem dX10_burst_104 : decode cX10_burst 104 = .ok (.l2i, 1) := by decide +kernel
theorem dX10_burst_105 : decode cX10_burst 105 = .ok (.iload 5, 2) := by decide +kernel
theorem dX10_burst_107 : decode cX10_burst 107 = .ok (.i2l, 1) := by decide +kernel
theorem dX10_burst_108 : decode cX10_burst 108 = .ok (.iload 7, 2) := by decide +kernel
theorem dX10_burst_110 : decode cX10_burst 110 = .ok (.i2l, 1) := by decide +kernel
theorem dX10_burst_111 : decode cX10_burst 111 = .ok (.ladd, 1) := by decide +kernel
theorem dX10_burst_112 : decode cX10_burst 112 = .ok (.invokevirtual 232, 3) := by decide +kernel
theorem dX10_burst_115 : decode cX10_burst 115 = .ok (.iinc 7 1, 3) := by decide +kernel
theorem dX10_burst_118 : decode cX10_burst 118 = .ok (.goto (-81), 3) := by decide +kernel
theorem dX10_burst_121 : decode cX10_burst 121 = .ok (.iload 7, 2) := by decide +kernel
theorem dX10_burst_123 : decode cX10_burst 123 = .ok (.ireturn, 1) := by decide +kernel
theorem dX10_mark_0 : decode cX10_mark 0 = .ok (.iload_n 1, 1) := by decide +kernel
theorem dX10_mark_1 : decode cX10_mark 1 = .ok (.invokestatic 235, 3) := by decide +kernel
theorem dX10_mark_4 : decode cX10_mark 4 = .ok (.ifCond .eq 13, 3) := by decide +kernel
theorem dX10_mark_7 : decode cX10_mark 7 = .ok (.iload_n 2, 1) := by decide +kernel
theorem dX10_mark_8 : decode cX10_mark 8 = .ok (.ifCond .lt 9, 3) := by decide +kernel
theorem dX10_mark_11 : decode cX10_mark 11 = .ok (.iload_n 2, 1) := by decide +kernel
theorem dX10_mark_12 : decode cX10_mark 12 = .ok (.ldc 97, 2) := by decide +kernel
theorem dX10_mark_14 : decode cX10_mark 14 = .ok (.if_icmp .le 5, 3) := by decide +kernel
theorem dX10_mark_17 : decode cX10_mark 17 = .ok (.iconst (-1), 1) := by decide +kernel
theorem dX10_mark_18 : decode cX10_mark 18 = .ok (.ireturn, 1) := by decide +kernel
theorem dX10_mark_19 : decode cX10_mark 19 = .ok (.iload_n 2, 1) := by decide +kernel
theorem dX10_mark_20 : decode cX10_mark 20 = .ok (.aload_n 0, 1) := by decide +kernel
theorem dX10_mark_21 : decode cX10_mark 21 = .ok (.getfield 9, 3) := by decide +kernel
theorem dX10_mark_24 : decode cX10_mark 24 = .ok (.iload_n 1, 1) := by decide +kernel
theorem dX10_mark_25 : decode cX10_mark 25 = .ok (.iaload, 1) := by decide +kernel
theorem dX10_mark_26 : decode cX10_mark 26 = .ok (.if_icmp .ge 6, 3) := by decide +kernel
theorem dX10_mark_29 : decode cX10_mark 29 = .ok (.bipush (-5), 2) := by decide +kernel
theorem dX10_mark_31 : decode cX10_mark 31 = .ok (.ireturn, 1) := by decide +kernel
theorem dX10_mark_32 : decode cX10_mark 32 = .ok (.aload_n 0, 1) := by decide +kernel
theorem dX10_mark_33 : decode cX10_mark 33 = .ok (.getfield 9, 3) := by decide +kernel
theorem dX10_mark_36 : decode cX10_mark 36 = .ok (.iload_n 1, 1) := by decide +kernel
theorem dX10_mark_37 : decode cX10_mark 37 = .ok (.iload_n 2, 1) := by decide +kernel
theorem dX10_mark_38 : decode cX10_mark 38 = .ok (.iastore, 1) := by decide +kernel
theorem dX10_mark_39 : decode cX10_mark 39 = .ok (.aload_n 0, 1) := by decide +kernel
theorem dX10_mark_40 : decode cX10_mark 40 = .ok (.invokevirtual 141, 3) := by decide +kernel
theorem dX10_mark_43 : decode cX10_mark 43 = .ok (.aload_n 0, 1) := by decide +kernel
theorem dX10_mark_44 : decode cX10_mark 44 = .ok (.getfield 155, 3) := by decide +kernel
theorem dX10_mark_47 : decode cX10_mark 47 = .ok (.ireturn, 1) := by decide +kernel
theorem dX10_idle_0 : decode cX10_idle 0 = .ok (.iload_n 1, 1) := by decide +kernel
theorem dX10_idle_1 : decode cX10_idle 1 = .ok (.invokestatic 235, 3) := by decide +kernel
theorem dX10_idle_4 : decode cX10_idle 4 = .ok (.ifCond .eq 12, 3) := by decide +kernel
theorem dX10_idle_7 : decode cX10_idle 7 = .ok (.iload_n 2, 1) := by decide +kernel
theorem dX10_idle_8 : decode cX10_idle 8 = .ok (.ifCond .lt 8, 3) := by decide +kernel
theorem dX10_idle_11 : decode cX10_idle 11 = .ok (.iload_n 2, 1) := by decide +kernel
theorem dX10_idle_12 : decode cX10_idle 12 = .ok (.iconst 1, 1) := by decide +kernel
theorem dX10_idle_13 : decode cX10_idle 13 = .ok (.if_icmp .le 5, 3) := by decide +kernel
theorem dX10_idle_16 : decode cX10_idle 16 = .ok (.iconst (-1), 1) := by decide +kernel
theorem dX10_idle_17 : decode cX10_idle 17 = .ok (.ireturn, 1) := by decide +kernel
theorem dX10_idle_18 : decode cX10_idle 18 = .ok (.aload_n 0, 1) := by decide +kernel
theorem dX10_idle_19 : decode cX10_idle 19 = .ok (.getfield 13, 3) := by decide +kernel
theorem dX10_idle_22 : decode cX10_idle 22 = .ok (.iload_n 1, 1) := by decide +kernel
theorem dX10_idle_23 : decode cX10_idle 23 = .ok (.baload, 1) := by decide +kernel
theorem dX10_idle_24 : decode cX10_idle 24 = .ok (.ifCond .eq 7, 3) := by decide +kernel
theorem dX10_idle_27 : decode cX10_idle 27 = .ok (.iconst 1, 1) := by decide +kernel
theorem dX10_idle_28 : decode cX10_idle 28 = .ok (.goto 4, 3) := by decide +kernel
theorem dX10_idle_31 : decode cX10_idle 31 = .ok (.iconst 0, 1) := by decide +kernel
theorem dX10_idle_32 : decode cX10_idle 32 = .ok (.istore_n 3, 1) := by decide +kernel
theorem dX10_idle_33 : decode cX10_idle 33 = .ok (.aload_n 0, 1) := by decide +kernel
theorem dX10_idle_34 : decode cX10_idle 34 = .ok (.getfield 13, 3) := by decide +kernel
theorem dX10_idle_37 : decode cX10_idle 37 = .ok (.iload_n 1, 1) := by decide +kernel
theorem dX10_idle_38 : decode cX10_idle 38 = .ok (.iload_n 2, 1) := by decide +kernel
theorem dX10_idle_39 : decode cX10_idle 39 = .ok (.iconst 1, 1) := by decide +kernel
theorem dX10_idle_40 : decode cX10_idle 40 = .ok (.if_icmp .ne 7, 3) := by decide +kernel
theorem dX10_idle_43 : decode cX10_idle 43 = .ok (.iconst 1, 1) := by decide +kernel
theorem dX10_idle_44 : decode cX10_idle 44 = .ok (.goto 4, 3) := by decide +kernel
theorem dX10_idle_47 : decode cX10_idle 47 = .ok (.iconst 0, 1) := by decide +kernel
theorem dX10_idle_48 : decode cX10_idle 48 = .ok (.bastore, 1) := by decide +kernel
theorem dX10_idle_49 : decode cX10_idle 49 = .ok (.aload_n 0, 1) := by decide +kernel
theorem dX10_idle_50 : decode cX10_idle 50 = .ok (.invokevirtual 141, 3) := by decide +kernel
theorem dX10_idle_53 : decode cX10_idle 53 = .ok (.iload_n 3, 1) := by decide +kernel
theorem dX10_idle_54 : decode cX10_idle 54 = .ok (.ireturn, 1) := by decide +kernel
theorem dX10_rows_0 : decode cX10_rows 0 = .ok (.aload_n 0, 1) := by decide +kernel
theorem dX10_rows_1 : decode cX10_rows 1 = .ok (.getfield 155, 3) := by decide +kernel
theorem dX10_rows_4 : decode cX10_rows 4 = .ok (.ireturn, 1) := by decide +kernel
theorem dX10_row_0 : decode cX10_row 0 = .ok (.iload_n 1, 1) := by decide +kernel
theorem dX10_row_1 : decode cX10_row 1 = .ok (.ifCond .lt 20, 3) := by decide +kernel
theorem dX10_row_4 : decode cX10_row 4 = .ok (.iload_n 1, 1) := by decide +kernel
theorem dX10_row_5 : decode cX10_row 5 = .ok (.aload_n 0, 1) := by decide +kernel
theorem dX10_row_6 : decode cX10_row 6 = .ok (.getfield 155, 3) := by decide +kernel
theorem dX10_row_9 : decode cX10_row 9 = .ok (.if_icmp .ge 12, 3) := by decide +kernel
theorem dX10_row_12 : decode cX10_row 12 = .ok (.iload_n 2, 1) := by decide +kernel
theorem dX10_row_13 : decode cX10_row 13 = .ok (.ifCond .lt 8, 3) := by decide +kernel
theorem dX10_row_16 : decode cX10_row 16 = .ok (.iload_n 2, 1) := by decide +kernel
theorem dX10_row_17 : decode cX10_row 17 = .ok (.iconst 4, 1) := by decide +kernel
theorem dX10_row_18 : decode cX10_row 18 = .ok (.if_icmp .le 5, 3) := by decide +kernel
theorem dX10_row_21 : decode cX10_row 21 = .ok (.iconst (-1), 1) := by decide +kernel
theorem dX10_row_22 : decode cX10_row 22 = .ok (.ireturn, 1) := by decide +kernel
theorem dX10_row_23 : decode cX10_row 23 = .ok (.iload_n 2, 1) := by decide +kernel
theorem dX10_row_24 : decode cX10_row 24 = .ok (.tableswitch 60 0 3 #[32, 39, 46, 53], 32) := by decide +kernel
theorem dX10_row_56 : decode cX10_row 56 = .ok (.aload_n 0, 1) := by decide +kernel
theorem dX10_row_57 : decode cX10_row 57 = .ok (.getfield 98, 3) := by decide +kernel
theorem dX10_row_60 : decode cX10_row 60 = .ok (.iload_n 1, 1) := by decide +kernel
theorem dX10_row_61 : decode cX10_row 61 = .ok (.iaload, 1) := by decide +kernel
theorem dX10_row_62 : decode cX10_row 62 = .ok (.ireturn, 1) := by decide +kernel
theorem dX10_row_63 : decode cX10_row 63 = .ok (.aload_n 0, 1) := by decide +kernel
theorem dX10_row_64 : decode cX10_row 64 = .ok (.getfield 101, 3) := by decide +kernel
theorem dX10_row_67 : decode cX10_row 67 = .ok (.iload_n 1, 1) := by decide +kernel
theorem dX10_row_68 : decode cX10_row 68 = .ok (.iaload, 1) := by decide +kernel
theorem dX10_row_69 : decode cX10_row 69 = .ok (.ireturn, 1) := by decide +kernel
theorem dX10_row_70 : decode cX10_row 70 = .ok (.aload_n 0, 1) := by decide +kernel
theorem dX10_row_71 : decode cX10_row 71 = .ok (.getfield 104, 3) := by decide +kernel
theorem dX10_row_74 : decode cX10_row 74 = .ok (.iload_n 1, 1) := by decide +kernel
theorem dX10_row_75 : decode cX10_row 75 = .ok (.iaload, 1) := by decide +kernel
theorem dX10_row_76 : decode cX10_row 76 = .ok (.ireturn, 1) := by decide +kernel
theorem dX10_row_77 : decode cX10_row 77 = .ok (.aload_n 0, 1) := by decide +kernel
theorem dX10_row_78 : decode cX10_row 78 = .ok (.getfield 107, 3) := by decide +kernel
theorem dX10_row_81 : decode cX10_row 81 = .ok (.iload_n 1, 1) := by decide +kernel
theorem dX10_row_82 : decode cX10_row 82 = .ok (.iaload, 1) := by decide +kernel
theorem dX10_row_83 : decode cX10_row 83 = .ok (.ireturn, 1) := by decide +kernel
theorem dX10_row_84 : decode cX10_row 84 = .ok (.aload_n 0, 1) := by decide +kernel
theorem dX10_row_85 : decode cX10_row 85 = .ok (.getfield 110, 3) := by decide +kernel
theorem dX10_row_88 : decode cX10_row 88 = .ok (.iload_n 1, 1) := by decide +kernel
theorem dX10_row_89 : decode cX10_row 89 = .ok (.iaload, 1) := by decide +kernel
theorem dX10_row_90 : decode cX10_row 90 = .ok (.ireturn, 1) := by decide +kernel
theorem dX10_sum_0 : decode cX10_sum 0 = .ok (.iload_n 1, 1) := by decide +kernel
theorem dX10_sum_1 : decode cX10_sum 1 = .ok (.ifCond .lt 11, 3) := by decide +kernel
theorem dX10_sum_4 : decode cX10_sum 4 = .ok (.iload_n 1, 1) := by decide +kernel
theorem dX10_sum_5 : decode cX10_sum 5 = .ok (.aload_n 0, 1) := by decide +kernel
theorem dX10_sum_6 : decode cX10_sum 6 = .ok (.getfield 155, 3) := by decide +kernel
theorem dX10_sum_9 : decode cX10_sum 9 = .ok (.if_icmp .lt 7, 3) := by decide +kernel
theorem dX10_sum_12 : decode cX10_sum 12 = .ok (.lconst 0, 1) := by decide +kernel
theorem dX10_sum_13 : decode cX10_sum 13 = .ok (.goto 9, 3) := by decide +kernel
theorem dX10_sum_16 : decode cX10_sum 16 = .ok (.aload_n 0, 1) := by decide +kernel
theorem dX10_sum_17 : decode cX10_sum 17 = .ok (.getfield 113, 3) := by decide +kernel
theorem dX10_sum_20 : decode cX10_sum 20 = .ok (.iload_n 1, 1) := by decide +kernel
theorem dX10_sum_21 : decode cX10_sum 21 = .ok (.laload, 1) := by decide +kernel
theorem dX10_sum_22 : decode cX10_sum 22 = .ok (.lreturn, 1) := by decide +kernel
theorem dX10_findLeft_0 : decode cX10_findLeft 0 = .ok (.iconst 0, 1) := by decide +kernel
theorem dX10_findLeft_1 : decode cX10_findLeft 1 = .ok (.istore_n 2, 1) := by decide +kernel
theorem dX10_findLeft_2 : decode cX10_findLeft 2 = .ok (.iconst 0, 1) := by decide +kernel
theorem dX10_findLeft_3 : decode cX10_findLeft 3 = .ok (.istore_n 3, 1) := by decide +kernel
theorem dX10_findLeft_4 : decode cX10_findLeft 4 = .ok (.iload_n 3, 1) := by decide +kernel
theorem dX10_findLeft_5 : decode cX10_findLeft 5 = .ok (.aload_n 0, 1) := by decide +kernel
theorem dX10_findLeft_6 : decode cX10_findLeft 6 = .ok (.getfield 170, 3) := by decide +kernel
theorem dX10_findLeft_9 : decode cX10_findLeft 9 = .ok (.if_icmp .ge 38, 3) := by decide +kernel
theorem dX10_findLeft_12 : decode cX10_findLeft 12 = .ok (.aload_n 0, 1) := by decide +kernel
theorem dX10_findLeft_13 : decode cX10_findLeft 13 = .ok (.getfield 67, 3) := by decide +kernel
theorem dX10_findLeft_16 : decode cX10_findLeft 16 = .ok (.iload_n 3, 1) := by decide +kernel
theorem dX10_findLeft_17 : decode cX10_findLeft 17 = .ok (.iaload, 1) := by decide +kernel
theorem dX10_findLeft_18 : decode cX10_findLeft 18 = .ok (.iload_n 1, 1) := by decide +kernel
theorem dX10_findLeft_19 : decode cX10_findLeft 19 = .ok (.if_icmp .ne 22, 3) := by decide +kernel
theorem dX10_findLeft_22 : decode cX10_findLeft 22 = .ok (.aload_n 0, 1) := by decide +kernel
theorem dX10_findLeft_23 : decode cX10_findLeft 23 = .ok (.getfield 82, 3) := by decide +kernel
theorem dX10_findLeft_26 : decode cX10_findLeft 26 = .ok (.iload_n 3, 1) := by decide +kernel
theorem dX10_findLeft_27 : decode cX10_findLeft 27 = .ok (.iaload, 1) := by decide +kernel
theorem dX10_findLeft_28 : decode cX10_findLeft 28 = .ok (.ifCond .lt 13, 3) := by decide +kernel
theorem dX10_findLeft_31 : decode cX10_findLeft 31 = .ok (.aload_n 0, 1) := by decide +kernel
theorem dX10_findLeft_32 : decode cX10_findLeft 32 = .ok (.getfield 119, 3) := by decide +kernel
theorem dX10_findLeft_35 : decode cX10_findLeft 35 = .ok (.iload_n 2, 1) := by decide +kernel
theorem dX10_findLeft_36 : decode cX10_findLeft 36 = .ok (.iload_n 3, 1) := by decide +kernel
theorem dX10_findLeft_37 : decode cX10_findLeft 37 = .ok (.iastore, 1) := by decide +kernel
theorem dX10_findLeft_38 : decode cX10_findLeft 38 = .ok (.iinc 2 1, 3) := by decide +kernel
theorem dX10_findLeft_41 : decode cX10_findLeft 41 = .ok (.iinc 3 1, 3) := by decide +kernel
theorem dX10_findLeft_44 : decode cX10_findLeft 44 = .ok (.goto (-40), 3) := by decide +kernel
theorem dX10_findLeft_47 : decode cX10_findLeft 47 = .ok (.iload_n 2, 1) := by decide +kernel
theorem dX10_findLeft_48 : decode cX10_findLeft 48 = .ok (.ireturn, 1) := by decide +kernel
theorem dX10_left_0 : decode cX10_left 0 = .ok (.aload_n 0, 1) := by decide +kernel
theorem dX10_left_1 : decode cX10_left 1 = .ok (.iload_n 1, 1) := by decide +kernel
theorem dX10_left_2 : decode cX10_left 2 = .ok (.invokevirtual 134, 3) := by decide +kernel
theorem dX10_left_5 : decode cX10_left 5 = .ok (.ifCond .ne 5, 3) := by decide +kernel
theorem dX10_left_8 : decode cX10_left 8 = .ok (.iconst (-1), 1) := by decide +kernel
theorem dX10_left_9 : decode cX10_left 9 = .ok (.ireturn, 1) := by decide +kernel
theorem dX10_left_10 : decode cX10_left 10 = .ok (.aload_n 0, 1) := by decide +kernel
theorem dX10_left_11 : decode cX10_left 11 = .ok (.iload_n 1, 1) := by decide +kernel
theorem dX10_left_12 : decode cX10_left 12 = .ok (.invokevirtual 130, 3) := by decide +kernel
theorem dX10_left_15 : decode cX10_left 15 = .ok (.ifCond .eq 11, 3) := by decide +kernel
theorem dX10_left_18 : decode cX10_left 18 = .ok (.aload_n 0, 1) := by decide +kernel
theorem dX10_left_19 : decode cX10_left 19 = .ok (.iload_n 1, 1) := by decide +kernel
theorem dX10_left_20 : decode cX10_left 20 = .ok (.invokevirtual 246, 3) := by decide +kernel
theorem dX10_left_23 : decode cX10_left 23 = .ok (.goto 5, 3) := by decide +kernel
theorem dX10_left_26 : decode cX10_left 26 = .ok (.bipush (-2), 2) := by decide +kernel
theorem dX10_left_28 : decode cX10_left 28 = .ok (.ireturn, 1) := by decide +kernel
theorem dX10_leftRow_0 : decode cX10_leftRow 0 = .ok (.aload_n 0, 1) := by decide +kernel
theorem dX10_leftRow_1 : decode cX10_leftRow 1 = .ok (.iload_n 1, 1) := by decide +kernel
theorem dX10_leftRow_2 : decode cX10_leftRow 2 = .ok (.invokevirtual 134, 3) := by decide +kernel
theorem dX10_leftRow_5 : decode cX10_leftRow 5 = .ok (.ifCond .eq 11, 3) := by decide +kernel
theorem dX10_leftRow_8 : decode cX10_leftRow 8 = .ok (.aload_n 0, 1) := by decide +kernel
theorem dX10_leftRow_9 : decode cX10_leftRow 9 = .ok (.iload_n 1, 1) := by decide +kernel
theorem dX10_leftRow_10 : decode cX10_leftRow 10 = .ok (.invokevirtual 130, 3) := by decide +kernel
theorem dX10_leftRow_13 : decode cX10_leftRow 13 = .ok (.ifCond .ne 5, 3) := by decide +kernel
theorem dX10_leftRow_16 : decode cX10_leftRow 16 = .ok (.iconst (-1), 1) := by decide +kernel
theorem dX10_leftRow_17 : decode cX10_leftRow 17 = .ok (.ireturn, 1) := by decide +kernel
theorem dX10_leftRow_18 : decode cX10_leftRow 18 = .ok (.aload_n 0, 1) := by decide +kernel
theorem dX10_leftRow_19 : decode cX10_leftRow 19 = .ok (.iload_n 1, 1) := by decide +kernel
theorem dX10_leftRow_20 : decode cX10_leftRow 20 = .ok (.invokevirtual 246, 3) := by decide +kernel
theorem dX10_leftRow_23 : decode cX10_leftRow 23 = .ok (.istore_n 3, 1) := by decide +kernel
theorem dX10_leftRow_24 : decode cX10_leftRow 24 = .ok (.iload_n 2, 1) := by decide +kernel
theorem dX10_leftRow_25 : decode cX10_leftRow 25 = .ok (.ifCond .lt 8, 3) := by decide +kernel
theorem dX10_leftRow_28 : decode cX10_leftRow 28 = .ok (.iload_n 2, 1) := by decide +kernel
theorem dX10_leftRow_29 : decode cX10_leftRow 29 = .ok (.iload_n 3, 1) := by decide +kernel
theorem dX10_leftRow_30 : decode cX10_leftRow 30 = .ok (.if_icmp .lt 5, 3) := by decide +kernel
theorem dX10_leftRow_33 : decode cX10_leftRow 33 = .ok (.iconst (-1), 1) := by decide +kernel
theorem dX10_leftRow_34 : decode cX10_leftRow 34 = .ok (.ireturn, 1) := by decide +kernel
theorem dX10_leftRow_35 : decode cX10_leftRow 35 = .ok (.aload_n 0, 1) := by decide +kernel
theorem dX10_leftRow_36 : decode cX10_leftRow 36 = .ok (.iload_n 3, 1) := by decide +kernel
theorem dX10_leftRow_37 : decode cX10_leftRow 37 = .ok (.iconst 0, 1) := by decide +kernel
theorem dX10_leftRow_38 : decode cX10_leftRow 38 = .ok (.invokevirtual 207, 3) := by decide +kernel
theorem dX10_leftRow_41 : decode cX10_leftRow 41 = .ok (.aload_n 0, 1) := by decide +kernel
theorem dX10_leftRow_42 : decode cX10_leftRow 42 = .ok (.getfield 82, 3) := by decide +kernel
theorem dX10_leftRow_45 : decode cX10_leftRow 45 = .ok (.aload_n 0, 1) := by decide +kernel
theorem dX10_leftRow_46 : decode cX10_leftRow 46 = .ok (.getfield 119, 3) := by decide +kernel
theorem dX10_leftRow_49 : decode cX10_leftRow 49 = .ok (.iload_n 2, 1) := by decide +kernel
theorem dX10_leftRow_50 : decode cX10_leftRow 50 = .ok (.iaload, 1) := by decide +kernel
theorem dX10_leftRow_51 : decode cX10_leftRow 51 = .ok (.iaload, 1) := by decide +kernel
theorem dX10_leftRow_52 : decode cX10_leftRow 52 = .ok (.ireturn, 1) := by decide +kernel
theorem dX10_there_0 : decode cX10_there 0 = .ok (.iconst 0, 1) := by decide +kernel
theorem dX10_there_1 : decode cX10_there 1 = .ok (.istore_n 3, 1) := by decide +kernel
theorem dX10_there_2 : decode cX10_there 2 = .ok (.iconst 0, 1) := by decide +kernel
theorem dX10_there_3 : decode cX10_there 3 = .ok (.istore 4, 2) := by decide +kernel
theorem dX10_there_5 : decode cX10_there 5 = .ok (.iload 4, 2) := by decide +kernel
theorem dX10_there_7 : decode cX10_there 7 = .ok (.aload_n 0, 1) := by decide +kernel
theorem dX10_there_8 : decode cX10_there 8 = .ok (.getfield 170, 3) := by decide +kernel
theorem dX10_there_11 : decode cX10_there 11 = .ok (.if_icmp .ge 52, 3) := by decide +kernel
theorem dX10_there_14 : decode cX10_there 14 = .ok (.iload_n 3, 1) := by decide +kernel
theorem dX10_there_15 : decode cX10_there 15 = .ok (.aload_n 0, 1) := by decide +kernel
theorem dX10_there_16 : decode cX10_there 16 = .ok (.getfield 67, 3) := by decide +kernel
theorem dX10_there_19 : decode cX10_there 19 = .ok (.iload 4, 2) := by decide +kernel
theorem dX10_there_21 : decode cX10_there 21 = .ok (.iaload, 1) := by decide +kernel
theorem dX10_there_22 : decode cX10_there 22 = .ok (.iload_n 1, 1) := by decide +kernel
theorem dX10_there_23 : decode cX10_there 23 = .ok (.if_icmp .ne 31, 3) := by decide +kernel
theorem dX10_there_26 : decode cX10_there 26 = .ok (.aload_n 0, 1) := by decide +kernel
theorem dX10_there_27 : decode cX10_there 27 = .ok (.getfield 79, 3) := by decide +kernel
theorem dX10_there_30 : decode cX10_there 30 = .ok (.iload 4, 2) := by decide +kernel
theorem dX10_there_32 : decode cX10_there 32 = .ok (.baload, 1) := by decide +kernel
theorem dX10_there_33 : decode cX10_there 33 = .ok (.ifCond .eq 21, 3) := by decide +kernel
theorem dX10_there_36 : decode cX10_there 36 = .ok (.iload_n 2, 1) := by decide +kernel
theorem dX10_there_37 : decode cX10_there 37 = .ok (.ifCond .eq 13, 3) := by decide +kernel
theorem dX10_there_40 : decode cX10_there 40 = .ok (.aload_n 0, 1) := by decide +kernel
theorem dX10_there_41 : decode cX10_there 41 = .ok (.getfield 88, 3) := by decide +kernel
theorem dX10_there_44 : decode cX10_there 44 = .ok (.iload 4, 2) := by decide +kernel
theorem dX10_there_46 : decode cX10_there 46 = .ok (.iaload, 1) := by decide +kernel
theorem dX10_there_47 : decode cX10_there 47 = .ok (.goto 8, 3) := by decide +kernel
theorem dX10_there_50 : decode cX10_there 50 = .ok (.iconst 1, 1) := by decide +kernel
theorem dX10_there_51 : decode cX10_there 51 = .ok (.goto 4, 3) := by decide +kernel
theorem dX10_there_54 : decode cX10_there 54 = .ok (.iconst 0, 1) := by decide +kernel
theorem dX10_there_55 : decode cX10_there 55 = .ok (.iadd, 1) := by decide +kernel
theorem dX10_there_56 : decode cX10_there 56 = .ok (.istore_n 3, 1) := by decide +kernel
theorem dX10_there_57 : decode cX10_there 57 = .ok (.iinc 4 1, 3) := by decide +kernel
theorem dX10_there_60 : decode cX10_there 60 = .ok (.goto (-55), 3) := by decide +kernel
theorem dX10_there_63 : decode cX10_there 63 = .ok (.iload_n 3, 1) := by decide +kernel
theorem dX10_there_64 : decode cX10_there 64 = .ok (.ireturn, 1) := by decide +kernel
theorem dX10_about_0 : decode cX10_about 0 = .ok (.aload_n 0, 1) := by decide +kernel
theorem dX10_about_1 : decode cX10_about 1 = .ok (.iload_n 1, 1) := by decide +kernel
theorem dX10_about_2 : decode cX10_about 2 = .ok (.invokevirtual 134, 3) := by decide +kernel
theorem dX10_about_5 : decode cX10_about 5 = .ok (.ifCond .eq 13, 3) := by decide +kernel
theorem dX10_about_8 : decode cX10_about 8 = .ok (.iload_n 2, 1) := by decide +kernel
theorem dX10_about_9 : decode cX10_about 9 = .ok (.ifCond .lt 9, 3) := by decide +kernel
theorem dX10_about_12 : decode cX10_about 12 = .ok (.iload_n 2, 1) := by decide +kernel
theorem dX10_about_13 : decode cX10_about 13 = .ok (.bipush 7, 2) := by decide +kernel
theorem dX10_about_15 : decode cX10_about 15 = .ok (.if_icmp .le 5, 3) := by decide +kernel
theorem dX10_about_18 : decode cX10_about 18 = .ok (.iconst (-1), 1) := by decide +kernel
theorem dX10_about_19 : decode cX10_about 19 = .ok (.ireturn, 1) := by decide +kernel
theorem dX10_about_20 : decode cX10_about 20 = .ok (.iload_n 2, 1) := by decide +kernel
theorem dX10_about_21 : decode cX10_about 21 = .ok (.tableswitch 92 0 6 #[43, 50, 57, 64, 71, 78, 85], 43) := by decide +kernel
theorem dX10_about_64 : decode cX10_about 64 = .ok (.aload_n 0, 1) := by decide +kernel
theorem dX10_about_65 : decode cX10_about 65 = .ok (.getfield 17, 3) := by decide +kernel
theorem dX10_about_68 : decode cX10_about 68 = .ok (.iload_n 1, 1) := by decide +kernel
theorem dX10_about_69 : decode cX10_about 69 = .ok (.iaload, 1) := by decide +kernel
theorem dX10_about_70 : decode cX10_about 70 = .ok (.ireturn, 1) := by decide +kernel
theorem dX10_about_71 : decode cX10_about 71 = .ok (.aload_n 0, 1) := by decide +kernel
theorem dX10_about_72 : decode cX10_about 72 = .ok (.getfield 26, 3) := by decide +kernel
theorem dX10_about_75 : decode cX10_about 75 = .ok (.iload_n 1, 1) := by decide +kernel
theorem dX10_about_76 : decode cX10_about 76 = .ok (.iaload, 1) := by decide +kernel
theorem dX10_about_77 : decode cX10_about 77 = .ok (.ireturn, 1) := by decide +kernel
theorem dX10_about_78 : decode cX10_about 78 = .ok (.aload_n 0, 1) := by decide +kernel
theorem dX10_about_79 : decode cX10_about 79 = .ok (.getfield 38, 3) := by decide +kernel
theorem dX10_about_82 : decode cX10_about 82 = .ok (.iload_n 1, 1) := by decide +kernel
theorem dX10_about_83 : decode cX10_about 83 = .ok (.iaload, 1) := by decide +kernel
theorem dX10_about_84 : decode cX10_about 84 = .ok (.ireturn, 1) := by decide +kernel
theorem dX10_about_85 : decode cX10_about 85 = .ok (.aload_n 0, 1) := by decide +kernel
theorem dX10_about_86 : decode cX10_about 86 = .ok (.getfield 41, 3) := by decide +kernel
theorem dX10_about_89 : decode cX10_about 89 = .ok (.iload_n 1, 1) := by decide +kernel
theorem dX10_about_90 : decode cX10_about 90 = .ok (.iaload, 1) := by decide +kernel
theorem dX10_about_91 : decode cX10_about 91 = .ok (.ireturn, 1) := by decide +kernel
theorem dX10_about_92 : decode cX10_about 92 = .ok (.aload_n 0, 1) := by decide +kernel
theorem dX10_about_93 : decode cX10_about 93 = .ok (.iload_n 1, 1) := by decide +kernel
theorem dX10_about_94 : decode cX10_about 94 = .ok (.iconst 0, 1) := by decide +kernel
theorem dX10_about_95 : decode cX10_about 95 = .ok (.invokevirtual 249, 3) := by decide +kernel
theorem dX10_about_98 : decode cX10_about 98 = .ok (.ireturn, 1) := by decide +kernel
theorem dX10_about_99 : decode cX10_about 99 = .ok (.aload_n 0, 1) := by decide +kernel
theorem dX10_about_100 : decode cX10_about 100 = .ok (.iload_n 1, 1) := by decide +kernel
theorem dX10_about_101 : decode cX10_about 101 = .ok (.iconst 1, 1) := by decide +kernel
theorem dX10_about_102 : decode cX10_about 102 = .ok (.invokevirtual 249, 3) := by decide +kernel
theorem dX10_about_105 : decode cX10_about 105 = .ok (.ireturn, 1) := by decide +kernel
theorem dX10_about_106 : decode cX10_about 106 = .ok (.aload_n 0, 1) := by decide +kernel
theorem dX10_about_107 : decode cX10_about 107 = .ok (.getfield 35, 3) := by decide +kernel
theorem dX10_about_110 : decode cX10_about 110 = .ok (.iload_n 1, 1) := by decide +kernel
theorem dX10_about_111 : decode cX10_about 111 = .ok (.iaload, 1) := by decide +kernel
theorem dX10_about_112 : decode cX10_about 112 = .ok (.ireturn, 1) := by decide +kernel
theorem dX10_about_113 : decode cX10_about 113 = .ok (.aload_n 0, 1) := by decide +kernel
theorem dX10_about_114 : decode cX10_about 114 = .ok (.getfield 29, 3) := by decide +kernel
theorem dX10_about_117 : decode cX10_about 117 = .ok (.iload_n 1, 1) := by decide +kernel
theorem dX10_about_118 : decode cX10_about 118 = .ok (.baload, 1) := by decide +kernel
theorem dX10_about_119 : decode cX10_about 119 = .ok (.ifCond .eq 7, 3) := by decide +kernel
theorem dX10_about_122 : decode cX10_about 122 = .ok (.iconst 1, 1) := by decide +kernel
theorem dX10_about_123 : decode cX10_about 123 = .ok (.goto 4, 3) := by decide +kernel
theorem dX10_about_126 : decode cX10_about 126 = .ok (.iconst 0, 1) := by decide +kernel
theorem dX10_about_127 : decode cX10_about 127 = .ok (.ireturn, 1) := by decide +kernel
theorem dX10_gave_0 : decode cX10_gave 0 = .ok (.aload_n 0, 1) := by decide +kernel
theorem dX10_gave_1 : decode cX10_gave 1 = .ok (.iload_n 1, 1) := by decide +kernel
theorem dX10_gave_2 : decode cX10_gave 2 = .ok (.invokevirtual 134, 3) := by decide +kernel
theorem dX10_gave_5 : decode cX10_gave 5 = .ok (.ifCond .eq 21, 3) := by decide +kernel
theorem dX10_gave_8 : decode cX10_gave 8 = .ok (.iload_n 2, 1) := by decide +kernel
theorem dX10_gave_9 : decode cX10_gave 9 = .ok (.ifCond .lt 17, 3) := by decide +kernel
theorem dX10_gave_12 : decode cX10_gave 12 = .ok (.iload_n 2, 1) := by decide +kernel
theorem dX10_gave_13 : decode cX10_gave 13 = .ok (.iconst 1, 1) := by decide +kernel
theorem dX10_gave_14 : decode cX10_gave 14 = .ok (.if_icmp .gt 12, 3) := by decide +kernel
theorem dX10_gave_17 : decode cX10_gave 17 = .ok (.aload_n 0, 1) := by decide +kernel
theorem dX10_gave_18 : decode cX10_gave 18 = .ok (.getfield 53, 3) := by decide +kernel
theorem dX10_gave_21 : decode cX10_gave 21 = .ok (.iload_n 1, 1) := by decide +kernel
theorem dX10_gave_22 : decode cX10_gave 22 = .ok (.baload, 1) := by decide +kernel
theorem dX10_gave_23 : decode cX10_gave 23 = .ok (.ifCond .ne 5, 3) := by decide +kernel
theorem dX10_gave_26 : decode cX10_gave 26 = .ok (.iconst (-1), 1) := by decide +kernel
theorem dX10_gave_27 : decode cX10_gave 27 = .ok (.ireturn, 1) := by decide +kernel
theorem dX10_gave_28 : decode cX10_gave 28 = .ok (.iload_n 2, 1) := by decide +kernel
theorem dX10_gave_29 : decode cX10_gave 29 = .ok (.ifCond .ne 12, 3) := by decide +kernel
theorem dX10_gave_32 : decode cX10_gave 32 = .ok (.aload_n 0, 1) := by decide +kernel
theorem dX10_gave_33 : decode cX10_gave 33 = .ok (.getfield 56, 3) := by decide +kernel
theorem dX10_gave_36 : decode cX10_gave 36 = .ok (.iload_n 1, 1) := by decide +kernel
theorem dX10_gave_37 : decode cX10_gave 37 = .ok (.iaload, 1) := by decide +kernel
theorem dX10_gave_38 : decode cX10_gave 38 = .ok (.goto 9, 3) := by decide +kernel
theorem dX10_gave_41 : decode cX10_gave 41 = .ok (.aload_n 0, 1) := by decide +kernel
theorem dX10_gave_42 : decode cX10_gave 42 = .ok (.getfield 59, 3) := by decide +kernel
theorem dX10_gave_45 : decode cX10_gave 45 = .ok (.iload_n 1, 1) := by decide +kernel
theorem dX10_gave_46 : decode cX10_gave 46 = .ok (.iaload, 1) := by decide +kernel
theorem dX10_gave_47 : decode cX10_gave 47 = .ok (.ireturn, 1) := by decide +kernel
theorem dX10_gaveValue_0 : decode cX10_gaveValue 0 = .ok (.aload_n 0, 1) := by decide +kernel
theorem dX10_gaveValue_1 : decode cX10_gaveValue 1 = .ok (.iload_n 1, 1) := by decide +kernel
theorem dX10_gaveValue_2 : decode cX10_gaveValue 2 = .ok (.invokevirtual 134, 3) := by decide +kernel
theorem dX10_gaveValue_5 : decode cX10_gaveValue 5 = .ok (.ifCond .eq 21, 3) := by decide +kernel
theorem dX10_gaveValue_8 : decode cX10_gaveValue 8 = .ok (.aload_n 0, 1) := by decide +kernel
theorem dX10_gaveValue_9 : decode cX10_gaveValue 9 = .ok (.getfield 53, 3) := by decide +kernel
theorem dX10_gaveValue_12 : decode cX10_gaveValue 12 = .ok (.iload_n 1, 1) := by decide +kernel
theorem dX10_gaveValue_13 : decode cX10_gaveValue 13 = .ok (.baload, 1) := by decide +kernel
theorem dX10_gaveValue_14 : decode cX10_gaveValue 14 = .ok (.ifCond .eq 12, 3) := by decide +kernel
theorem dX10_gaveValue_17 : decode cX10_gaveValue 17 = .ok (.aload_n 0, 1) := by decide +kernel
theorem dX10_gaveValue_18 : decode cX10_gaveValue 18 = .ok (.getfield 62, 3) := by decide +kernel
theorem dX10_gaveValue_21 : decode cX10_gaveValue 21 = .ok (.iload_n 1, 1) := by decide +kernel
theorem dX10_gaveValue_22 : decode cX10_gaveValue 22 = .ok (.laload, 1) := by decide +kernel
theorem dX10_gaveValue_23 : decode cX10_gaveValue 23 = .ok (.goto 4, 3) := by decide +kernel
theorem dX10_gaveValue_26 : decode cX10_gaveValue 26 = .ok (.lconst 0, 1) := by decide +kernel
theorem dX10_gaveValue_27 : decode cX10_gaveValue 27 = .ok (.lreturn, 1) := by decide +kernel
theorem dX10_apart_0 : decode cX10_apart 0 = .ok (.aload_n 0, 1) := by decide +kernel
theorem dX10_apart_1 : decode cX10_apart 1 = .ok (.iload_n 1, 1) := by decide +kernel
theorem dX10_apart_2 : decode cX10_apart 2 = .ok (.invokevirtual 134, 3) := by decide +kernel
theorem dX10_apart_5 : decode cX10_apart 5 = .ok (.ifCond .ne 5, 3) := by decide +kernel
theorem dX10_apart_8 : decode cX10_apart 8 = .ok (.iconst (-1), 1) := by decide +kernel
theorem dX10_apart_9 : decode cX10_apart 9 = .ok (.ireturn, 1) := by decide +kernel
theorem dX10_apart_10 : decode cX10_apart 10 = .ok (.aload_n 0, 1) := by decide +kernel
theorem dX10_apart_11 : decode cX10_apart 11 = .ok (.iload_n 1, 1) := by decide +kernel
theorem dX10_apart_12 : decode cX10_apart 12 = .ok (.invokevirtual 130, 3) := by decide +kernel
theorem dX10_apart_15 : decode cX10_apart 15 = .ok (.ifCond .ne 6, 3) := by decide +kernel
theorem dX10_apart_18 : decode cX10_apart 18 = .ok (.bipush (-2), 2) := by decide +kernel
theorem dX10_apart_20 : decode cX10_apart 20 = .ok (.ireturn, 1) := by decide +kernel
theorem dX10_apart_21 : decode cX10_apart 21 = .ok (.iconst 0, 1) := by decide +kernel
theorem dX10_apart_22 : decode cX10_apart 22 = .ok (.istore_n 2, 1) := by decide +kernel
theorem dX10_apart_23 : decode cX10_apart 23 = .ok (.iconst 0, 1) := by decide +kernel
theorem dX10_apart_24 : decode cX10_apart 24 = .ok (.istore_n 3, 1) := by decide +kernel
theorem dX10_apart_25 : decode cX10_apart 25 = .ok (.iload_n 3, 1) := by decide +kernel
theorem dX10_apart_26 : decode cX10_apart 26 = .ok (.aload_n 0, 1) := by decide +kernel
theorem dX10_apart_27 : decode cX10_apart 27 = .ok (.getfield 170, 3) := by decide +kernel
theorem dX10_apart_30 : decode cX10_apart 30 = .ok (.if_icmp .ge 71, 3) := by decide +kernel
theorem dX10_apart_33 : decode cX10_apart 33 = .ok (.aload_n 0, 1) := by decide +kernel
theorem dX10_apart_34 : decode cX10_apart 34 = .ok (.getfield 67, 3) := by decide +kernel
theorem dX10_apart_37 : decode cX10_apart 37 = .ok (.iload_n 3, 1) := by decide +kernel
theorem dX10_apart_38 : decode cX10_apart 38 = .ok (.iaload, 1) := by decide +kernel
theorem dX10_apart_39 : decode cX10_apart 39 = .ok (.iload_n 1, 1) := by decide +kernel
theorem dX10_apart_40 : decode cX10_apart 40 = .ok (.if_icmp .ne 55, 3) := by decide +kernel
theorem dX10_apart_43 : decode cX10_apart 43 = .ok (.aload_n 0, 1) := by decide +kernel
theorem dX10_apart_44 : decode cX10_apart 44 = .ok (.getfield 76, 3) := by decide +kernel
theorem dX10_apart_47 : decode cX10_apart 47 = .ok (.iload_n 3, 1) := by decide +kernel
theorem dX10_apart_48 : decode cX10_apart 48 = .ok (.iaload, 1) := by decide +kernel
theorem dX10_apart_49 : decode cX10_apart 49 = .ok (.aload_n 0, 1) := by decide +kernel
theorem dX10_apart_50 : decode cX10_apart 50 = .ok (.getfield 26, 3) := by decide +kernel
theorem dX10_apart_53 : decode cX10_apart 53 = .ok (.iload_n 1, 1) := by decide +kernel
theorem dX10_apart_54 : decode cX10_apart 54 = .ok (.iaload, 1) := by decide +kernel
theorem dX10_apart_55 : decode cX10_apart 55 = .ok (.if_icmp .gt 40, 3) := by decide +kernel
theorem dX10_apart_58 : decode cX10_apart 58 = .ok (.iload_n 2, 1) := by decide +kernel
theorem dX10_apart_59 : decode cX10_apart 59 = .ok (.aload_n 0, 1) := by decide +kernel
theorem dX10_apart_60 : decode cX10_apart 60 = .ok (.getfield 82, 3) := by decide +kernel
theorem dX10_apart_63 : decode cX10_apart 63 = .ok (.iload_n 3, 1) := by decide +kernel
theorem dX10_apart_64 : decode cX10_apart 64 = .ok (.iaload, 1) := by decide +kernel
theorem dX10_apart_65 : decode cX10_apart 65 = .ok (.ifCond .lt 23, 3) := by decide +kernel
theorem dX10_apart_68 : decode cX10_apart 68 = .ok (.aload_n 0, 1) := by decide +kernel
theorem dX10_apart_69 : decode cX10_apart 69 = .ok (.getfield 113, 3) := by decide +kernel
theorem dX10_apart_72 : decode cX10_apart 72 = .ok (.aload_n 0, 1) := by decide +kernel
theorem dX10_apart_73 : decode cX10_apart 73 = .ok (.getfield 82, 3) := by decide +kernel
theorem dX10_apart_76 : decode cX10_apart 76 = .ok (.iload_n 3, 1) := by decide +kernel
theorem dX10_apart_77 : decode cX10_apart 77 = .ok (.iaload, 1) := by decide +kernel
theorem dX10_apart_78 : decode cX10_apart 78 = .ok (.laload, 1) := by decide +kernel
theorem dX10_apart_79 : decode cX10_apart 79 = .ok (.aload_n 0, 1) := by decide +kernel
theorem dX10_apart_80 : decode cX10_apart 80 = .ok (.iload_n 3, 1) := by decide +kernel
theorem dX10_apart_81 : decode cX10_apart 81 = .ok (.invokevirtual 166, 3) := by decide +kernel
theorem dX10_apart_84 : decode cX10_apart 84 = .ok (.lcmp, 1) := by decide +kernel
theorem dX10_apart_85 : decode cX10_apart 85 = .ok (.ifCond .eq 7, 3) := by decide +kernel
theorem dX10_apart_88 : decode cX10_apart 88 = .ok (.iconst 1, 1) := by decide +kernel
theorem dX10_apart_89 : decode cX10_apart 89 = .ok (.goto 4, 3) := by decide +kernel
theorem dX10_apart_92 : decode cX10_apart 92 = .ok (.iconst 0, 1) := by decide +kernel
theorem dX10_apart_93 : decode cX10_apart 93 = .ok (.iadd, 1) := by decide +kernel
theorem dX10_apart_94 : decode cX10_apart 94 = .ok (.istore_n 2, 1) := by decide +kernel
theorem dX10_apart_95 : decode cX10_apart 95 = .ok (.iinc 3 1, 3) := by decide +kernel
theorem dX10_apart_98 : decode cX10_apart 98 = .ok (.goto (-73), 3) := by decide +kernel
theorem dX10_apart_101 : decode cX10_apart 101 = .ok (.iload_n 2, 1) := by decide +kernel
theorem dX10_apart_102 : decode cX10_apart 102 = .ok (.ireturn, 1) := by decide +kernel
theorem dX10_count_0 : decode cX10_count 0 = .ok (.iload_n 1, 1) := by decide +kernel
theorem dX10_count_1 : decode cX10_count 1 = .ok (.ifCond .lt 8, 3) := by decide +kernel
theorem dX10_count_4 : decode cX10_count 4 = .ok (.iload_n 1, 1) := by decide +kernel
theorem dX10_count_5 : decode cX10_count 5 = .ok (.iconst 2, 1) := by decide +kernel
theorem dX10_count_6 : decode cX10_count 6 = .ok (.if_icmp .le 5, 3) := by decide +kernel
theorem dX10_count_9 : decode cX10_count 9 = .ok (.iconst (-1), 1) := by decide +kernel
theorem dX10_count_10 : decode cX10_count 10 = .ok (.ireturn, 1) := by decide +kernel
theorem dX10_count_11 : decode cX10_count 11 = .ok (.iload_n 1, 1) := by decide +kernel
theorem dX10_count_12 : decode cX10_count 12 = .ok (.iconst 2, 1) := by decide +kernel
theorem dX10_count_13 : decode cX10_count 13 = .ok (.if_icmp .ge 19, 3) := by decide +kernel
theorem dX10_count_16 : decode cX10_count 16 = .ok (.iload_n 1, 1) := by decide +kernel
theorem dX10_count_17 : decode cX10_count 17 = .ok (.ifCond .ne 10, 3) := by decide +kernel
theorem dX10_count_20 : decode cX10_count 20 = .ok (.aload_n 0, 1) := by decide +kernel
theorem dX10_count_21 : decode cX10_count 21 = .ok (.getfield 122, 3) := by decide +kernel
theorem dX10_count_24 : decode cX10_count 24 = .ok (.goto 7, 3) := by decide +kernel
theorem dX10_count_27 : decode cX10_count 27 = .ok (.aload_n 0, 1) := by decide +kernel
theorem dX10_count_28 : decode cX10_count 28 = .ok (.getfield 241, 3) := by decide +kernel
theorem dX10_count_31 : decode cX10_count 31 = .ok (.ireturn, 1) := by decide +kernel
theorem dX10_count_32 : decode cX10_count 32 = .ok (.iconst 0, 1) := by decide +kernel
theorem dX10_count_33 : decode cX10_count 33 = .ok (.istore_n 2, 1) := by decide +kernel
theorem dX10_count_34 : decode cX10_count 34 = .ok (.iconst 0, 1) := by decide +kernel
theorem dX10_count_35 : decode cX10_count 35 = .ok (.istore_n 3, 1) := by decide +kernel
theorem dX10_count_36 : decode cX10_count 36 = .ok (.iload_n 3, 1) := by decide +kernel
theorem dX10_count_37 : decode cX10_count 37 = .ok (.aload_n 0, 1) := by decide +kernel
theorem dX10_count_38 : decode cX10_count 38 = .ok (.getfield 170, 3) := by decide +kernel
theorem dX10_count_41 : decode cX10_count 41 = .ok (.if_icmp .ge 35, 3) := by decide +kernel
theorem dX10_count_44 : decode cX10_count 44 = .ok (.iload_n 2, 1) := by decide +kernel
theorem dX10_count_45 : decode cX10_count 45 = .ok (.aload_n 0, 1) := by decide +kernel
theorem dX10_count_46 : decode cX10_count 46 = .ok (.getfield 67, 3) := by decide +kernel
theorem dX10_count_49 : decode cX10_count 49 = .ok (.iload_n 3, 1) := by decide +kernel
theorem dX10_count_50 : decode cX10_count 50 = .ok (.iaload, 1) := by decide +kernel
theorem dX10_count_51 : decode cX10_count 51 = .ok (.ifCond .lt 16, 3) := by decide +kernel
theorem dX10_count_54 : decode cX10_count 54 = .ok (.aload_n 0, 1) := by decide +kernel
theorem dX10_count_55 : decode cX10_count 55 = .ok (.getfield 79, 3) := by decide +kernel
theorem dX10_count_58 : decode cX10_count 58 = .ok (.iload_n 3, 1) := by decide +kernel
theorem dX10_count_59 : decode cX10_count 59 = .ok (.baload, 1) := by decide +kernel
theorem dX10_count_60 : decode cX10_count 60 = .ok (.ifCond .eq 7, 3) := by decide +kernel
theorem dX10_count_63 : decode cX10_count 63 = .ok (.iconst 1, 1) := by decide +kernel
theorem dX10_count_64 : decode cX10_count 64 = .ok (.goto 4, 3) := by decide +kernel
theorem dX10_count_67 : decode cX10_count 67 = .ok (.iconst 0, 1) := by decide +kernel
theorem dX10_count_68 : decode cX10_count 68 = .ok (.iadd, 1) := by decide +kernel
theorem dX10_count_69 : decode cX10_count 69 = .ok (.istore_n 2, 1) := by decide +kernel
theorem dX10_count_70 : decode cX10_count 70 = .ok (.iinc 3 1, 3) := by decide +kernel
theorem dX10_count_73 : decode cX10_count 73 = .ok (.goto (-37), 3) := by decide +kernel
theorem dX10_count_76 : decode cX10_count 76 = .ok (.iload_n 2, 1) := by decide +kernel
theorem dX10_count_77 : decode cX10_count 77 = .ok (.ireturn, 1) := by decide +kernel
theorem dX10_markOf_0 : decode cX10_markOf 0 = .ok (.iload_n 1, 1) := by decide +kernel
theorem dX10_markOf_1 : decode cX10_markOf 1 = .ok (.invokestatic 235, 3) := by decide +kernel
theorem dX10_markOf_4 : decode cX10_markOf 4 = .ok (.ifCond .eq 12, 3) := by decide +kernel
theorem dX10_markOf_7 : decode cX10_markOf 7 = .ok (.aload_n 0, 1) := by decide +kernel
theorem dX10_markOf_8 : decode cX10_markOf 8 = .ok (.getfield 9, 3) := by decide +kernel
theorem dX10_markOf_11 : decode cX10_markOf 11 = .ok (.iload_n 1, 1) := by decide +kernel
theorem dX10_markOf_12 : decode cX10_markOf 12 = .ok (.iaload, 1) := by decide +kernel
theorem dX10_markOf_13 : decode cX10_markOf 13 = .ok (.goto 4, 3) := by decide +kernel
theorem dX10_markOf_16 : decode cX10_markOf 16 = .ok (.iconst (-1), 1) := by decide +kernel
theorem dX10_markOf_17 : decode cX10_markOf 17 = .ok (.ireturn, 1) := by decide +kernel
theorem dJ6_bitCount_0f7a4_0 : decode cJ6_bitCount_0f7a4 0 = .ok (.iload_n 0, 1) := by decide +kernel
theorem dJ6_bitCount_0f7a4_1 : decode cJ6_bitCount_0f7a4 1 = .ok (.iload_n 0, 1) := by decide +kernel
theorem dJ6_bitCount_0f7a4_2 : decode cJ6_bitCount_0f7a4 2 = .ok (.iconst 1, 1) := by decide +kernel
theorem dJ6_bitCount_0f7a4_3 : decode cJ6_bitCount_0f7a4 3 = .ok (.iushr, 1) := by decide +kernel
theorem dJ6_bitCount_0f7a4_4 : decode cJ6_bitCount_0f7a4 4 = .ok (.ldc_w 265, 3) := by decide +kernel
theorem dJ6_bitCount_0f7a4_7 : decode cJ6_bitCount_0f7a4 7 = .ok (.iand, 1) := by decide +kernel
theorem dJ6_bitCount_0f7a4_8 : decode cJ6_bitCount_0f7a4 8 = .ok (.isub, 1) := by decide +kernel
theorem dJ6_bitCount_0f7a4_9 : decode cJ6_bitCount_0f7a4 9 = .ok (.istore_n 0, 1) := by decide +kernel
theorem dJ6_bitCount_0f7a4_10 : decode cJ6_bitCount_0f7a4 10 = .ok (.iload_n 0, 1) := by decide +kernel
theorem dJ6_bitCount_0f7a4_11 : decode cJ6_bitCount_0f7a4 11 = .ok (.ldc_w 266, 3) := by decide +kernel
theorem dJ6_bitCount_0f7a4_14 : decode cJ6_bitCount_0f7a4 14 = .ok (.iand, 1) := by decide +kernel
theorem dJ6_bitCount_0f7a4_15 : decode cJ6_bitCount_0f7a4 15 = .ok (.iload_n 0, 1) := by decide +kernel
theorem dJ6_bitCount_0f7a4_16 : decode cJ6_bitCount_0f7a4 16 = .ok (.iconst 2, 1) := by decide +kernel
theorem dJ6_bitCount_0f7a4_17 : decode cJ6_bitCount_0f7a4 17 = .ok (.iushr, 1) := by decide +kernel
theorem dJ6_bitCount_0f7a4_18 : decode cJ6_bitCount_0f7a4 18 = .ok (.ldc_w 266, 3) := by decide +kernel
theorem dJ6_bitCount_0f7a4_21 : decode cJ6_bitCount_0f7a4 21 = .ok (.iand, 1) := by decide +kernel
theorem dJ6_bitCount_0f7a4_22 : decode cJ6_bitCount_0f7a4 22 = .ok (.iadd, 1) := by decide +kernel
theorem dJ6_bitCount_0f7a4_23 : decode cJ6_bitCount_0f7a4 23 = .ok (.istore_n 0, 1) := by decide +kernel
theorem dJ6_bitCount_0f7a4_24 : decode cJ6_bitCount_0f7a4 24 = .ok (.iload_n 0, 1) := by decide +kernel
theorem dJ6_bitCount_0f7a4_25 : decode cJ6_bitCount_0f7a4 25 = .ok (.iload_n 0, 1) := by decide +kernel
theorem dJ6_bitCount_0f7a4_26 : decode cJ6_bitCount_0f7a4 26 = .ok (.iconst 4, 1) := by decide +kernel
theorem dJ6_bitCount_0f7a4_27 : decode cJ6_bitCount_0f7a4 27 = .ok (.iushr, 1) := by decide +kernel
theorem dJ6_bitCount_0f7a4_28 : decode cJ6_bitCount_0f7a4 28 = .ok (.iadd, 1) := by decide +kernel
theorem dJ6_bitCount_0f7a4_29 : decode cJ6_bitCount_0f7a4 29 = .ok (.ldc_w 267, 3) := by decide +kernel
theorem dJ6_bitCount_0f7a4_32 : decode cJ6_bitCount_0f7a4 32 = .ok (.iand, 1) := by decide +kernel
theorem dJ6_bitCount_0f7a4_33 : decode cJ6_bitCount_0f7a4 33 = .ok (.istore_n 0, 1) := by decide +kernel
theorem dJ6_bitCount_0f7a4_34 : decode cJ6_bitCount_0f7a4 34 = .ok (.iload_n 0, 1) := by decide +kernel
theorem dJ6_bitCount_0f7a4_35 : decode cJ6_bitCount_0f7a4 35 = .ok (.iload_n 0, 1) := by decide +kernel
theorem dJ6_bitCount_0f7a4_36 : decode cJ6_bitCount_0f7a4 36 = .ok (.bipush 8, 2) := by decide +kernel
theorem dJ6_bitCount_0f7a4_38 : decode cJ6_bitCount_0f7a4 38 = .ok (.iushr, 1) := by decide +kernel
theorem dJ6_bitCount_0f7a4_39 : decode cJ6_bitCount_0f7a4 39 = .ok (.iadd, 1) := by decide +kernel
theorem dJ6_bitCount_0f7a4_40 : decode cJ6_bitCount_0f7a4 40 = .ok (.istore_n 0, 1) := by decide +kernel
theorem dJ6_bitCount_0f7a4_41 : decode cJ6_bitCount_0f7a4 41 = .ok (.iload_n 0, 1) := by decide +kernel
theorem dJ6_bitCount_0f7a4_42 : decode cJ6_bitCount_0f7a4 42 = .ok (.iload_n 0, 1) := by decide +kernel
theorem dJ6_bitCount_0f7a4_43 : decode cJ6_bitCount_0f7a4 43 = .ok (.bipush 16, 2) := by decide +kernel
theorem dJ6_bitCount_0f7a4_45 : decode cJ6_bitCount_0f7a4 45 = .ok (.iushr, 1) := by decide +kernel
theorem dJ6_bitCount_0f7a4_46 : decode cJ6_bitCount_0f7a4 46 = .ok (.iadd, 1) := by decide +kernel
theorem dJ6_bitCount_0f7a4_47 : decode cJ6_bitCount_0f7a4 47 = .ok (.istore_n 0, 1) := by decide +kernel
theorem dJ6_bitCount_0f7a4_48 : decode cJ6_bitCount_0f7a4 48 = .ok (.iload_n 0, 1) := by decide +kernel
theorem dJ6_bitCount_0f7a4_49 : decode cJ6_bitCount_0f7a4 49 = .ok (.bipush 63, 2) := by decide +kernel
theorem dJ6_bitCount_0f7a4_51 : decode cJ6_bitCount_0f7a4 51 = .ok (.iand, 1) := by decide +kernel
theorem dJ6_bitCount_0f7a4_52 : decode cJ6_bitCount_0f7a4 52 = .ok (.ireturn, 1) := by decide +kernel
theorem dJ9_floorDiv_7cf53_0 : decode cJ9_floorDiv_7cf53 0 = .ok (.iload_n 0, 1) := by decide +kernel
theorem dJ9_floorDiv_7cf53_1 : decode cJ9_floorDiv_7cf53 1 = .ok (.iload_n 1, 1) := by decide +kernel
theorem dJ9_floorDiv_7cf53_2 : decode cJ9_floorDiv_7cf53 2 = .ok (.idiv, 1) := by decide +kernel
theorem dJ9_floorDiv_7cf53_3 : decode cJ9_floorDiv_7cf53 3 = .ok (.istore_n 2, 1) := by decide +kernel
theorem dJ9_floorDiv_7cf53_4 : decode cJ9_floorDiv_7cf53 4 = .ok (.iload_n 0, 1) := by decide +kernel
theorem dJ9_floorDiv_7cf53_5 : decode cJ9_floorDiv_7cf53 5 = .ok (.iload_n 1, 1) := by decide +kernel
theorem dJ9_floorDiv_7cf53_6 : decode cJ9_floorDiv_7cf53 6 = .ok (.ixor, 1) := by decide +kernel
theorem dJ9_floorDiv_7cf53_7 : decode cJ9_floorDiv_7cf53 7 = .ok (.ifCond .ge 14, 3) := by decide +kernel
theorem dJ9_floorDiv_7cf53_10 : decode cJ9_floorDiv_7cf53 10 = .ok (.iload_n 2, 1) := by decide +kernel
theorem dJ9_floorDiv_7cf53_11 : decode cJ9_floorDiv_7cf53 11 = .ok (.iload_n 1, 1) := by decide +kernel
theorem dJ9_floorDiv_7cf53_12 : decode cJ9_floorDiv_7cf53 12 = .ok (.imul, 1) := by decide +kernel
theorem dJ9_floorDiv_7cf53_13 : decode cJ9_floorDiv_7cf53 13 = .ok (.iload_n 0, 1) := by decide +kernel
theorem dJ9_floorDiv_7cf53_14 : decode cJ9_floorDiv_7cf53 14 = .ok (.if_icmp .eq 7, 3) := by decide +kernel
theorem dJ9_floorDiv_7cf53_17 : decode cJ9_floorDiv_7cf53 17 = .ok (.iload_n 2, 1) := by decide +kernel
theorem dJ9_floorDiv_7cf53_18 : decode cJ9_floorDiv_7cf53 18 = .ok (.iconst 1, 1) := by decide +kernel
theorem dJ9_floorDiv_7cf53_19 : decode cJ9_floorDiv_7cf53 19 = .ok (.isub, 1) := by decide +kernel
theorem dJ9_floorDiv_7cf53_20 : decode cJ9_floorDiv_7cf53 20 = .ok (.ireturn, 1) := by decide +kernel
theorem dJ9_floorDiv_7cf53_21 : decode cJ9_floorDiv_7cf53 21 = .ok (.iload_n 2, 1) := by decide +kernel
theorem dJ9_floorDiv_7cf53_22 : decode cJ9_floorDiv_7cf53 22 = .ok (.ireturn, 1) := by decide +kernel
theorem dJ9_floorMod_7cf53_0 : decode cJ9_floorMod_7cf53 0 = .ok (.iload_n 0, 1) := by decide +kernel
theorem dJ9_floorMod_7cf53_1 : decode cJ9_floorMod_7cf53 1 = .ok (.iload_n 1, 1) := by decide +kernel
theorem dJ9_floorMod_7cf53_2 : decode cJ9_floorMod_7cf53 2 = .ok (.irem, 1) := by decide +kernel
theorem dJ9_floorMod_7cf53_3 : decode cJ9_floorMod_7cf53 3 = .ok (.istore_n 2, 1) := by decide +kernel
theorem dJ9_floorMod_7cf53_4 : decode cJ9_floorMod_7cf53 4 = .ok (.iload_n 0, 1) := by decide +kernel
theorem dJ9_floorMod_7cf53_5 : decode cJ9_floorMod_7cf53 5 = .ok (.iload_n 1, 1) := by decide +kernel
theorem dJ9_floorMod_7cf53_6 : decode cJ9_floorMod_7cf53 6 = .ok (.ixor, 1) := by decide +kernel
theorem dJ9_floorMod_7cf53_7 : decode cJ9_floorMod_7cf53 7 = .ok (.ifCond .ge 11, 3) := by decide +kernel
theorem dJ9_floorMod_7cf53_10 : decode cJ9_floorMod_7cf53 10 = .ok (.iload_n 2, 1) := by decide +kernel
theorem dJ9_floorMod_7cf53_11 : decode cJ9_floorMod_7cf53 11 = .ok (.ifCond .eq 7, 3) := by decide +kernel
theorem dJ9_floorMod_7cf53_14 : decode cJ9_floorMod_7cf53 14 = .ok (.iload_n 2, 1) := by decide +kernel
theorem dJ9_floorMod_7cf53_15 : decode cJ9_floorMod_7cf53 15 = .ok (.iload_n 1, 1) := by decide +kernel
theorem dJ9_floorMod_7cf53_16 : decode cJ9_floorMod_7cf53 16 = .ok (.iadd, 1) := by decide +kernel
theorem dJ9_floorMod_7cf53_17 : decode cJ9_floorMod_7cf53 17 = .ok (.ireturn, 1) := by decide +kernel
theorem dJ9_floorMod_7cf53_18 : decode cJ9_floorMod_7cf53 18 = .ok (.iload_n 2, 1) := by decide +kernel
theorem dJ9_floorMod_7cf53_19 : decode cJ9_floorMod_7cf53 19 = .ok (.ireturn, 1) := by decide +kernel
theorem dJ9_floorMod_f86c9_0 : decode cJ9_floorMod_f86c9 0 = .ok (.lload_n 0, 1) := by decide +kernel
theorem dJ9_floorMod_f86c9_1 : decode cJ9_floorMod_f86c9 1 = .ok (.lload_n 2, 1) := by decide +kernel
theorem dJ9_floorMod_f86c9_2 : decode cJ9_floorMod_f86c9 2 = .ok (.lrem, 1) := by decide +kernel
theorem dJ9_floorMod_f86c9_3 : decode cJ9_floorMod_f86c9 3 = .ok (.lstore 4, 2) := by decide +kernel
theorem dJ9_floorMod_f86c9_5 : decode cJ9_floorMod_f86c9 5 = .ok (.lload_n 0, 1) := by decide +kernel
theorem dJ9_floorMod_f86c9_6 : decode cJ9_floorMod_f86c9 6 = .ok (.lload_n 2, 1) := by decide +kernel
theorem dJ9_floorMod_f86c9_7 : decode cJ9_floorMod_f86c9 7 = .ok (.lxor, 1) := by decide +kernel
theorem dJ9_floorMod_f86c9_8 : decode cJ9_floorMod_f86c9 8 = .ok (.lconst 0, 1) := by decide +kernel
theorem dJ9_floorMod_f86c9_9 : decode cJ9_floorMod_f86c9 9 = .ok (.lcmp, 1) := by decide +kernel
theorem dJ9_floorMod_f86c9_10 : decode cJ9_floorMod_f86c9 10 = .ok (.ifCond .ge 15, 3) := by decide +kernel
theorem dJ9_floorMod_f86c9_13 : decode cJ9_floorMod_f86c9 13 = .ok (.lload 4, 2) := by decide +kernel
theorem dJ9_floorMod_f86c9_15 : decode cJ9_floorMod_f86c9 15 = .ok (.lconst 0, 1) := by decide +kernel
theorem dJ9_floorMod_f86c9_16 : decode cJ9_floorMod_f86c9 16 = .ok (.lcmp, 1) := by decide +kernel
theorem dJ9_floorMod_f86c9_17 : decode cJ9_floorMod_f86c9 17 = .ok (.ifCond .eq 8, 3) := by decide +kernel
theorem dJ9_floorMod_f86c9_20 : decode cJ9_floorMod_f86c9 20 = .ok (.lload 4, 2) := by decide +kernel
theorem dJ9_floorMod_f86c9_22 : decode cJ9_floorMod_f86c9 22 = .ok (.lload_n 2, 1) := by decide +kernel
theorem dJ9_floorMod_f86c9_23 : decode cJ9_floorMod_f86c9 23 = .ok (.ladd, 1) := by decide +kernel
theorem dJ9_floorMod_f86c9_24 : decode cJ9_floorMod_f86c9 24 = .ok (.lreturn, 1) := by decide +kernel
theorem dJ9_floorMod_f86c9_25 : decode cJ9_floorMod_f86c9 25 = .ok (.lload 4, 2) := by decide +kernel
theorem dJ9_floorMod_f86c9_27 : decode cJ9_floorMod_f86c9 27 = .ok (.lreturn, 1) := by decide +kernel
theorem dJ9_max_7cf53_0 : decode cJ9_max_7cf53 0 = .ok (.iload_n 0, 1) := by decide +kernel
theorem dJ9_max_7cf53_1 : decode cJ9_max_7cf53 1 = .ok (.iload_n 1, 1) := by decide +kernel
theorem dJ9_max_7cf53_2 : decode cJ9_max_7cf53 2 = .ok (.if_icmp .lt 7, 3) := by decide +kernel
theorem dJ9_max_7cf53_5 : decode cJ9_max_7cf53 5 = .ok (.iload_n 0, 1) := by decide +kernel
theorem dJ9_max_7cf53_6 : decode cJ9_max_7cf53 6 = .ok (.goto 4, 3) := by decide +kernel
theorem dJ9_max_7cf53_9 : decode cJ9_max_7cf53 9 = .ok (.iload_n 1, 1) := by decide +kernel
theorem dJ9_max_7cf53_10 : decode cJ9_max_7cf53 10 = .ok (.ireturn, 1) := by decide +kernel
theorem dJ9_max_f86c9_0 : decode cJ9_max_f86c9 0 = .ok (.lload_n 0, 1) := by decide +kernel
theorem dJ9_max_f86c9_1 : decode cJ9_max_f86c9 1 = .ok (.lload_n 2, 1) := by decide +kernel
theorem dJ9_max_f86c9_2 : decode cJ9_max_f86c9 2 = .ok (.lcmp, 1) := by decide +kernel
theorem dJ9_max_f86c9_3 : decode cJ9_max_f86c9 3 = .ok (.ifCond .lt 7, 3) := by decide +kernel
theorem dJ9_max_f86c9_6 : decode cJ9_max_f86c9 6 = .ok (.lload_n 0, 1) := by decide +kernel
theorem dJ9_max_f86c9_7 : decode cJ9_max_f86c9 7 = .ok (.goto 4, 3) := by decide +kernel
theorem dJ9_max_f86c9_10 : decode cJ9_max_f86c9 10 = .ok (.lload_n 2, 1) := by decide +kernel
theorem dJ9_max_f86c9_11 : decode cJ9_max_f86c9 11 = .ok (.lreturn, 1) := by decide +kernel
theorem dJ9_min_7cf53_0 : decode cJ9_min_7cf53 0 = .ok (.iload_n 0, 1) := by decide +kernel
theorem dJ9_min_7cf53_1 : decode cJ9_min_7cf53 1 = .ok (.iload_n 1, 1) := by decide +kernel
theorem dJ9_min_7cf53_2 : decode cJ9_min_7cf53 2 = .ok (.if_icmp .gt 7, 3) := by decide +kernel
theorem dJ9_min_7cf53_5 : decode cJ9_min_7cf53 5 = .ok (.iload_n 0, 1) := by decide +kernel
theorem dJ9_min_7cf53_6 : decode cJ9_min_7cf53 6 = .ok (.goto 4, 3) := by decide +kernel
theorem dJ9_min_7cf53_9 : decode cJ9_min_7cf53 9 = .ok (.iload_n 1, 1) := by decide +kernel
theorem dJ9_min_7cf53_10 : decode cJ9_min_7cf53 10 = .ok (.ireturn, 1) := by decide +kernel
theorem dJ9_min_f86c9_0 : decode cJ9_min_f86c9 0 = .ok (.lload_n 0, 1) := by decide +kernel
theorem dJ9_min_f86c9_1 : decode cJ9_min_f86c9 1 = .ok (.lload_n 2, 1) := by decide +kernel
theorem dJ9_min_f86c9_2 : decode cJ9_min_f86c9 2 = .ok (.lcmp, 1) := by decide +kernel
theorem dJ9_min_f86c9_3 : decode cJ9_min_f86c9 3 = .ok (.ifCond .gt 7, 3) := by decide +kernel
theorem dJ9_min_f86c9_6 : decode cJ9_min_f86c9 6 = .ok (.lload_n 0, 1) := by decide +kernel
theorem dJ9_min_f86c9_7 : decode cJ9_min_f86c9 7 = .ok (.goto 4, 3) := by decide +kernel
theorem dJ9_min_f86c9_10 : decode cJ9_min_f86c9 10 = .ok (.lload_n 2, 1) := by decide +kernel
theorem dJ9_min_f86c9_11 : decode cJ9_min_f86c9 11 = .ok (.lreturn, 1) := by decide +kernel
theorem dJxa1e45_init_da8c8_0 : decode cJxa1e45_init_da8c8 0 = .ok (.aload_n 0, 1) := by decide +kernel
theorem dJxa1e45_init_da8c8_1 : decode cJxa1e45_init_da8c8 1 = .ok (.invokespecial 1, 3) := by decide +kernel
theorem dJxa1e45_init_da8c8_4 : decode cJxa1e45_init_da8c8 4 = .ok (.return_, 1) := by decide +kernel
theorem dJxc12de_init_da8c8_0 : decode cJxc12de_init_da8c8 0 = .ok (.aload_n 0, 1) := by decide +kernel
theorem dJxc12de_init_da8c8_1 : decode cJxc12de_init_da8c8 1 = .ok (.invokespecial 1, 3) := by decide +kernel
theorem dJxc12de_init_da8c8_4 : decode cJxc12de_init_da8c8 4 = .ok (.aload_n 0, 1) := by decide +kernel
theorem dJxc12de_init_da8c8_5 : decode cJxc12de_init_da8c8 5 = .ok (.iconst 0, 1) := by decide +kernel
theorem dJxc12de_init_da8c8_6 : decode cJxc12de_init_da8c8 6 = .ok (.putfield 7, 3) := by decide +kernel
theorem dJxc12de_init_da8c8_9 : decode cJxc12de_init_da8c8 9 = .ok (.return_, 1) := by decide +kernel
theorem dJx4a65c_init_da8c8_0 : decode cJx4a65c_init_da8c8 0 = .ok (.aload_n 0, 1) := by decide +kernel
theorem dJx4a65c_init_da8c8_1 : decode cJx4a65c_init_da8c8 1 = .ok (.invokespecial 1, 3) := by decide +kernel
theorem dJx4a65c_init_da8c8_4 : decode cJx4a65c_init_da8c8 4 = .ok (.aload_n 0, 1) := by decide +kernel
theorem dJx4a65c_init_da8c8_5 : decode cJx4a65c_init_da8c8 5 = .ok (.getstatic 39, 3) := by decide +kernel
theorem dJx4a65c_init_da8c8_8 : decode cJx4a65c_init_da8c8 8 = .ok (.putfield 9, 3) := by decide +kernel
theorem dJx4a65c_init_da8c8_11 : decode cJx4a65c_init_da8c8 11 = .ok (.return_, 1) := by decide +kernel
theorem dJx4a65c_grow_92f84_0 : decode cJx4a65c_grow_92f84 0 = .ok (.aload_n 0, 1) := by decide +kernel
theorem dJx4a65c_grow_92f84_1 : decode cJx4a65c_grow_92f84 1 = .ok (.getfield 9, 3) := by decide +kernel
theorem dJx4a65c_grow_92f84_4 : decode cJx4a65c_grow_92f84 4 = .ok (.arraylength, 1) := by decide +kernel
theorem dJx4a65c_grow_92f84_5 : decode cJx4a65c_grow_92f84 5 = .ok (.istore_n 2, 1) := by decide +kernel
theorem dJx4a65c_grow_92f84_6 : decode cJx4a65c_grow_92f84 6 = .ok (.iload_n 2, 1) := by decide +kernel
theorem dJx4a65c_grow_92f84_7 : decode cJx4a65c_grow_92f84 7 = .ok (.ifCond .gt 13, 3) := by decide +kernel
theorem dJx4a65c_grow_92f84_10 : decode cJx4a65c_grow_92f84 10 = .ok (.aload_n 0, 1) := by decide +kernel
theorem dJx4a65c_grow_92f84_11 : decode cJx4a65c_grow_92f84 11 = .ok (.getfield 9, 3) := by decide +kernel
theorem dJx4a65c_grow_92f84_14 : decode cJx4a65c_grow_92f84 14 = .ok (.getstatic 39, 3) := by decide +kernel
theorem dJx4a65c_grow_92f84_17 : decode cJx4a65c_grow_92f84 17 = .ok (.if_acmp .eq 28, 3) := by decide +kernel
theorem dJx4a65c_grow_92f84_20 : decode cJx4a65c_grow_92f84 20 = .ok (.iload_n 2, 1) := by decide +kernel
theorem dJx4a65c_grow_92f84_21 : decode cJx4a65c_grow_92f84 21 = .ok (.iload_n 1, 1) := by decide +kernel
theorem dJx4a65c_grow_92f84_22 : decode cJx4a65c_grow_92f84 22 = .ok (.iload_n 2, 1) := by decide +kernel
theorem dJx4a65c_grow_92f84_23 : decode cJx4a65c_grow_92f84 23 = .ok (.isub, 1) := by decide +kernel
theorem dJx4a65c_grow_92f84_24 : decode cJx4a65c_grow_92f84 24 = .ok (.iload_n 2, 1) := by decide +kernel
theorem dJx4a65c_grow_92f84_25 : decode cJx4a65c_grow_92f84 25 = .ok (.iconst 1, 1) := by decide +kernel
theorem dJx4a65c_grow_92f84_26 : decode cJx4a65c_grow_92f84 26 = .ok (.ishr, 1) := by decide +kernel
theorem dJx4a65c_grow_92f84_27 : decode cJx4a65c_grow_92f84 27 = .ok (.invokestatic 73, 3) := by decide +kernel
theorem dJx4a65c_grow_92f84_30 : decode cJx4a65c_grow_92f84 30 = .ok (.istore_n 3, 1) := by decide +kernel
theorem dJx4a65c_grow_92f84_31 : decode cJx4a65c_grow_92f84 31 = .ok (.aload_n 0, 1) := by decide +kernel
theorem dJx4a65c_grow_92f84_32 : decode cJx4a65c_grow_92f84 32 = .ok (.aload_n 0, 1) := by decide +kernel
theorem dJx4a65c_grow_92f84_33 : decode cJx4a65c_grow_92f84 33 = .ok (.getfield 9, 3) := by decide +kernel
theorem dJx4a65c_grow_92f84_36 : decode cJx4a65c_grow_92f84 36 = .ok (.iload_n 3, 1) := by decide +kernel
theorem dJx4a65c_grow_92f84_37 : decode cJx4a65c_grow_92f84 37 = .ok (.invokestatic 66, 3) := by decide +kernel
theorem dJx4a65c_grow_92f84_40 : decode cJx4a65c_grow_92f84 40 = .ok (.dup_x1, 1) := by decide +kernel
theorem dJx4a65c_grow_92f84_41 : decode cJx4a65c_grow_92f84 41 = .ok (.putfield 9, 3) := by decide +kernel
theorem dJx4a65c_grow_92f84_44 : decode cJx4a65c_grow_92f84 44 = .ok (.areturn, 1) := by decide +kernel
theorem dJx4a65c_grow_92f84_45 : decode cJx4a65c_grow_92f84 45 = .ok (.aload_n 0, 1) := by decide +kernel
theorem dJx4a65c_grow_92f84_46 : decode cJx4a65c_grow_92f84 46 = .ok (.bipush 10, 2) := by decide +kernel
theorem dJx4a65c_grow_92f84_48 : decode cJx4a65c_grow_92f84 48 = .ok (.iload_n 1, 1) := by decide +kernel
theorem dJx4a65c_grow_92f84_49 : decode cJx4a65c_grow_92f84 49 = .ok (.invokestatic 79, 3) := by decide +kernel
theorem dJx4a65c_grow_92f84_52 : decode cJx4a65c_grow_92f84 52 = .ok (.anewarray 7, 3) := by decide +kernel
theorem dJx4a65c_grow_92f84_55 : decode cJx4a65c_grow_92f84 55 = .ok (.dup_x1, 1) := by decide +kernel
theorem dJx4a65c_grow_92f84_56 : decode cJx4a65c_grow_92f84 56 = .ok (.putfield 9, 3) := by decide +kernel
theorem dJx4a65c_grow_92f84_59 : decode cJx4a65c_grow_92f84 59 = .ok (.areturn, 1) := by decide +kernel
theorem dJx4a65c_grow_d5877_0 : decode cJx4a65c_grow_d5877 0 = .ok (.aload_n 0, 1) := by decide +kernel
theorem dJx4a65c_grow_d5877_1 : decode cJx4a65c_grow_d5877 1 = .ok (.aload_n 0, 1) := by decide +kernel
theorem dJx4a65c_grow_d5877_2 : decode cJx4a65c_grow_d5877 2 = .ok (.getfield 48, 3) := by decide +kernel
theorem dJx4a65c_grow_d5877_5 : decode cJx4a65c_grow_d5877 5 = .ok (.iconst 1, 1) := by decide +kernel
theorem dJx4a65c_grow_d5877_6 : decode cJx4a65c_grow_d5877 6 = .ok (.iadd, 1) := by decide +kernel
theorem dJx4a65c_grow_d5877_7 : decode cJx4a65c_grow_d5877 7 = .ok (.invokevirtual 69, 3) := by decide +kernel
theorem dJx4a65c_grow_d5877_10 : decode cJx4a65c_grow_d5877 10 = .ok (.areturn, 1) := by decide +kernel
theorem dJx4a65c_size_8abf5_0 : decode cJx4a65c_size_8abf5 0 = .ok (.aload_n 0, 1) := by decide +kernel
theorem dJx4a65c_size_8abf5_1 : decode cJx4a65c_size_8abf5 1 = .ok (.getfield 48, 3) := by decide +kernel
theorem dJx4a65c_size_8abf5_4 : decode cJx4a65c_size_8abf5 4 = .ok (.ireturn, 1) := by decide +kernel
theorem dJx4a65c_elementData_915e3_0 : decode cJx4a65c_elementData_915e3 0 = .ok (.aload_n 0, 1) := by decide +kernel
theorem dJx4a65c_elementData_915e3_1 : decode cJx4a65c_elementData_915e3 1 = .ok (.getfield 9, 3) := by decide +kernel
theorem dJx4a65c_elementData_915e3_4 : decode cJx4a65c_elementData_915e3 4 = .ok (.iload_n 1, 1) := by decide +kernel
theorem dJx4a65c_elementData_915e3_5 : decode cJx4a65c_elementData_915e3 5 = .ok (.aaload, 1) := by decide +kernel
theorem dJx4a65c_elementData_915e3_6 : decode cJx4a65c_elementData_915e3 6 = .ok (.areturn, 1) := by decide +kernel
theorem dJx4a65c_get_915e3_0 : decode cJx4a65c_get_915e3 0 = .ok (.iload_n 1, 1) := by decide +kernel
theorem dJx4a65c_get_915e3_1 : decode cJx4a65c_get_915e3 1 = .ok (.aload_n 0, 1) := by decide +kernel
theorem dJx4a65c_get_915e3_2 : decode cJx4a65c_get_915e3 2 = .ok (.getfield 48, 3) := by decide +kernel
theorem dJx4a65c_get_915e3_5 : decode cJx4a65c_get_915e3 5 = .ok (.invokestatic 118, 3) := by decide +kernel
theorem dJx4a65c_get_915e3_8 : decode cJx4a65c_get_915e3 8 = .ok (.pop, 1) := by decide +kernel
theorem dJx4a65c_get_915e3_9 : decode cJx4a65c_get_915e3 9 = .ok (.aload_n 0, 1) := by decide +kernel
theorem dJx4a65c_get_915e3_10 : decode cJx4a65c_get_915e3 10 = .ok (.iload_n 1, 1) := by decide +kernel
theorem dJx4a65c_get_915e3_11 : decode cJx4a65c_get_915e3 11 = .ok (.invokevirtual 123, 3) := by decide +kernel
theorem dJx4a65c_get_915e3_14 : decode cJx4a65c_get_915e3 14 = .ok (.areturn, 1) := by decide +kernel
theorem dJx4a65c_add_7a177_0 : decode cJx4a65c_add_7a177 0 = .ok (.aload_n 0, 1) := by decide +kernel
theorem dJx4a65c_add_7a177_1 : decode cJx4a65c_add_7a177 1 = .ok (.iload_n 1, 1) := by decide +kernel
theorem dJx4a65c_add_7a177_2 : decode cJx4a65c_add_7a177 2 = .ok (.invokevirtual 135, 3) := by decide +kernel
theorem dJx4a65c_add_7a177_5 : decode cJx4a65c_add_7a177 5 = .ok (.aload_n 0, 1) := by decide +kernel
theorem dJx4a65c_add_7a177_6 : decode cJx4a65c_add_7a177 6 = .ok (.dup, 1) := by decide +kernel
theorem dJx4a65c_add_7a177_7 : decode cJx4a65c_add_7a177 7 = .ok (.getfield 63, 3) := by decide +kernel
theorem dJx4a65c_add_7a177_10 : decode cJx4a65c_add_7a177 10 = .ok (.iconst 1, 1) := by decide +kernel
theorem dJx4a65c_add_7a177_11 : decode cJx4a65c_add_7a177 11 = .ok (.iadd, 1) := by decide +kernel
theorem dJx4a65c_add_7a177_12 : decode cJx4a65c_add_7a177 12 = .ok (.putfield 63, 3) := by decide +kernel
theorem dJx4a65c_add_7a177_15 : decode cJx4a65c_add_7a177 15 = .ok (.aload_n 0, 1) := by decide +kernel
theorem dJx4a65c_add_7a177_16 : decode cJx4a65c_add_7a177 16 = .ok (.getfield 48, 3) := by decide +kernel
theorem dJx4a65c_add_7a177_19 : decode cJx4a65c_add_7a177 19 = .ok (.dup, 1) := by decide +kernel
theorem dJx4a65c_add_7a177_20 : decode cJx4a65c_add_7a177 20 = .ok (.istore_n 3, 1) := by decide +kernel
theorem dJx4a65c_add_7a177_21 : decode cJx4a65c_add_7a177 21 = .ok (.aload_n 0, 1) := by decide +kernel
theorem dJx4a65c_add_7a177_22 : decode cJx4a65c_add_7a177 22 = .ok (.getfield 9, 3) := by decide +kernel
theorem dJx4a65c_add_7a177_25 : decode cJx4a65c_add_7a177 25 = .ok (.dup, 1) := by decide +kernel
theorem dJx4a65c_add_7a177_26 : decode cJx4a65c_add_7a177 26 = .ok (.astore 4, 2) := by decide +kernel
theorem dJx4a65c_add_7a177_28 : decode cJx4a65c_add_7a177 28 = .ok (.arraylength, 1) := by decide +kernel
theorem dJx4a65c_add_7a177_29 : decode cJx4a65c_add_7a177 29 = .ok (.if_icmp .ne 9, 3) := by decide +kernel
theorem dJx4a65c_add_7a177_32 : decode cJx4a65c_add_7a177 32 = .ok (.aload_n 0, 1) := by decide +kernel
theorem dJx4a65c_add_7a177_33 : decode cJx4a65c_add_7a177 33 = .ok (.invokevirtual 129, 3) := by decide +kernel
theorem dJx4a65c_add_7a177_36 : decode cJx4a65c_add_7a177 36 = .ok (.astore 4, 2) := by decide +kernel
theorem dJx4a65c_add_7a177_38 : decode cJx4a65c_add_7a177 38 = .ok (.aload 4, 2) := by decide +kernel
theorem dJx4a65c_add_7a177_40 : decode cJx4a65c_add_7a177 40 = .ok (.iload_n 1, 1) := by decide +kernel
theorem dJx4a65c_add_7a177_41 : decode cJx4a65c_add_7a177 41 = .ok (.aload 4, 2) := by decide +kernel
theorem dJx4a65c_add_7a177_43 : decode cJx4a65c_add_7a177 43 = .ok (.iload_n 1, 1) := by decide +kernel
theorem dJx4a65c_add_7a177_44 : decode cJx4a65c_add_7a177 44 = .ok (.iconst 1, 1) := by decide +kernel
theorem dJx4a65c_add_7a177_45 : decode cJx4a65c_add_7a177 45 = .ok (.iadd, 1) := by decide +kernel
theorem dJx4a65c_add_7a177_46 : decode cJx4a65c_add_7a177 46 = .ok (.iload_n 3, 1) := by decide +kernel
theorem dJx4a65c_add_7a177_47 : decode cJx4a65c_add_7a177 47 = .ok (.iload_n 1, 1) := by decide +kernel
theorem dJx4a65c_add_7a177_48 : decode cJx4a65c_add_7a177 48 = .ok (.isub, 1) := by decide +kernel
theorem dJx4a65c_add_7a177_49 : decode cJx4a65c_add_7a177 49 = .ok (.invokestatic 112, 3) := by decide +kernel
theorem dJx4a65c_add_7a177_52 : decode cJx4a65c_add_7a177 52 = .ok (.aload 4, 2) := by decide +kernel
theorem dJx4a65c_add_7a177_54 : decode cJx4a65c_add_7a177 54 = .ok (.iload_n 1, 1) := by decide +kernel
theorem dJx4a65c_add_7a177_55 : decode cJx4a65c_add_7a177 55 = .ok (.aload_n 2, 1) := by decide +kernel
theorem dJx4a65c_add_7a177_56 : decode cJx4a65c_add_7a177 56 = .ok (.aastore, 1) := by decide +kernel
theorem dJx4a65c_add_7a177_57 : decode cJx4a65c_add_7a177 57 = .ok (.aload_n 0, 1) := by decide +kernel
theorem dJx4a65c_add_7a177_58 : decode cJx4a65c_add_7a177 58 = .ok (.iload_n 3, 1) := by decide +kernel
theorem dJx4a65c_add_7a177_59 : decode cJx4a65c_add_7a177 59 = .ok (.iconst 1, 1) := by decide +kernel
theorem dJx4a65c_add_7a177_60 : decode cJx4a65c_add_7a177 60 = .ok (.iadd, 1) := by decide +kernel
theorem dJx4a65c_add_7a177_61 : decode cJx4a65c_add_7a177 61 = .ok (.putfield 48, 3) := by decide +kernel
theorem dJx4a65c_add_7a177_64 : decode cJx4a65c_add_7a177 64 = .ok (.return_, 1) := by decide +kernel
theorem dJx4a65c_remove_915e3_0 : decode cJx4a65c_remove_915e3 0 = .ok (.iload_n 1, 1) := by decide +kernel
theorem dJx4a65c_remove_915e3_1 : decode cJx4a65c_remove_915e3 1 = .ok (.aload_n 0, 1) := by decide +kernel
theorem dJx4a65c_remove_915e3_2 : decode cJx4a65c_remove_915e3 2 = .ok (.getfield 48, 3) := by decide +kernel
theorem dJx4a65c_remove_915e3_5 : decode cJx4a65c_remove_915e3 5 = .ok (.invokestatic 118, 3) := by decide +kernel
theorem dJx4a65c_remove_915e3_8 : decode cJx4a65c_remove_915e3 8 = .ok (.pop, 1) := by decide +kernel
theorem dJx4a65c_remove_915e3_9 : decode cJx4a65c_remove_915e3 9 = .ok (.aload_n 0, 1) := by decide +kernel
theorem dJx4a65c_remove_915e3_10 : decode cJx4a65c_remove_915e3 10 = .ok (.getfield 9, 3) := by decide +kernel
theorem dJx4a65c_remove_915e3_13 : decode cJx4a65c_remove_915e3 13 = .ok (.astore_n 2, 1) := by decide +kernel
theorem dJx4a65c_remove_915e3_14 : decode cJx4a65c_remove_915e3 14 = .ok (.aload_n 2, 1) := by decide +kernel
theorem dJx4a65c_remove_915e3_15 : decode cJx4a65c_remove_915e3 15 = .ok (.iload_n 1, 1) := by decide +kernel
theorem dJx4a65c_remove_915e3_16 : decode cJx4a65c_remove_915e3 16 = .ok (.aaload, 1) := by decide +kernel
theorem dJx4a65c_remove_915e3_17 : decode cJx4a65c_remove_915e3 17 = .ok (.astore_n 3, 1) := by decide +kernel
theorem dJx4a65c_remove_915e3_18 : decode cJx4a65c_remove_915e3 18 = .ok (.aload_n 0, 1) := by decide +kernel
theorem dJx4a65c_remove_915e3_19 : decode cJx4a65c_remove_915e3 19 = .ok (.aload_n 2, 1) := by decide +kernel
theorem dJx4a65c_remove_915e3_20 : decode cJx4a65c_remove_915e3 20 = .ok (.iload_n 1, 1) := by decide +kernel
theorem dJx4a65c_remove_915e3_21 : decode cJx4a65c_remove_915e3 21 = .ok (.invokevirtual 144, 3) := by decide +kernel
theorem dJx4a65c_remove_915e3_24 : decode cJx4a65c_remove_915e3 24 = .ok (.aload_n 3, 1) := by decide +kernel
theorem dJx4a65c_remove_915e3_25 : decode cJx4a65c_remove_915e3 25 = .ok (.areturn, 1) := by decide +kernel
theorem dJx4a65c_fastRemove_b59b0_0 : decode cJx4a65c_fastRemove_b59b0 0 = .ok (.aload_n 0, 1) := by decide +kernel
theorem dJx4a65c_fastRemove_b59b0_1 : decode cJx4a65c_fastRemove_b59b0 1 = .ok (.dup, 1) := by decide +kernel
theorem dJx4a65c_fastRemove_b59b0_2 : decode cJx4a65c_fastRemove_b59b0 2 = .ok (.getfield 63, 3) := by decide +kernel
theorem dJx4a65c_fastRemove_b59b0_5 : decode cJx4a65c_fastRemove_b59b0 5 = .ok (.iconst 1, 1) := by decide +kernel
theorem dJx4a65c_fastRemove_b59b0_6 : decode cJx4a65c_fastRemove_b59b0 6 = .ok (.iadd, 1) := by decide +kernel
theorem dJx4a65c_fastRemove_b59b0_7 : decode cJx4a65c_fastRemove_b59b0 7 = .ok (.putfield 63, 3) := by decide +kernel
theorem dJx4a65c_fastRemove_b59b0_10 : decode cJx4a65c_fastRemove_b59b0 10 = .ok (.aload_n 0, 1) := by decide +kernel
theorem dJx4a65c_fastRemove_b59b0_11 : decode cJx4a65c_fastRemove_b59b0 11 = .ok (.getfield 48, 3) := by decide +kernel
theorem dJx4a65c_fastRemove_b59b0_14 : decode cJx4a65c_fastRemove_b59b0 14 = .ok (.iconst 1, 1) := by decide +kernel
theorem dJx4a65c_fastRemove_b59b0_15 : decode cJx4a65c_fastRemove_b59b0 15 = .ok (.isub, 1) := by decide +kernel
theorem dJx4a65c_fastRemove_b59b0_16 : decode cJx4a65c_fastRemove_b59b0 16 = .ok (.dup, 1) := by decide +kernel
theorem dJx4a65c_fastRemove_b59b0_17 : decode cJx4a65c_fastRemove_b59b0 17 = .ok (.istore_n 3, 1) := by decide +kernel
theorem dJx4a65c_fastRemove_b59b0_18 : decode cJx4a65c_fastRemove_b59b0 18 = .ok (.iload_n 2, 1) := by decide +kernel
theorem dJx4a65c_fastRemove_b59b0_19 : decode cJx4a65c_fastRemove_b59b0 19 = .ok (.if_icmp .le 15, 3) := by decide +kernel
theorem dJx4a65c_fastRemove_b59b0_22 : decode cJx4a65c_fastRemove_b59b0 22 = .ok (.aload_n 1, 1) := by decide +kernel
theorem dJx4a65c_fastRemove_b59b0_23 : decode cJx4a65c_fastRemove_b59b0 23 = .ok (.iload_n 2, 1) := by decide +kernel
theorem dJx4a65c_fastRemove_b59b0_24 : decode cJx4a65c_fastRemove_b59b0 24 = .ok (.iconst 1, 1) := by decide +kernel
theorem dJx4a65c_fastRemove_b59b0_25 : decode cJx4a65c_fastRemove_b59b0 25 = .ok (.iadd, 1) := by decide +kernel
theorem dJx4a65c_fastRemove_b59b0_26 : decode cJx4a65c_fastRemove_b59b0 26 = .ok (.aload_n 1, 1) := by decide +kernel
theorem dJx4a65c_fastRemove_b59b0_27 : decode cJx4a65c_fastRemove_b59b0 27 = .ok (.iload_n 2, 1) := by decide +kernel
theorem dJx4a65c_fastRemove_b59b0_28 : decode cJx4a65c_fastRemove_b59b0 28 = .ok (.iload_n 3, 1) := by decide +kernel
theorem dJx4a65c_fastRemove_b59b0_29 : decode cJx4a65c_fastRemove_b59b0 29 = .ok (.iload_n 2, 1) := by decide +kernel
theorem dJx4a65c_fastRemove_b59b0_30 : decode cJx4a65c_fastRemove_b59b0 30 = .ok (.isub, 1) := by decide +kernel
theorem dJx4a65c_fastRemove_b59b0_31 : decode cJx4a65c_fastRemove_b59b0 31 = .ok (.invokestatic 112, 3) := by decide +kernel
theorem dJx4a65c_fastRemove_b59b0_34 : decode cJx4a65c_fastRemove_b59b0 34 = .ok (.aload_n 1, 1) := by decide +kernel
theorem dJx4a65c_fastRemove_b59b0_35 : decode cJx4a65c_fastRemove_b59b0 35 = .ok (.aload_n 0, 1) := by decide +kernel
theorem dJx4a65c_fastRemove_b59b0_36 : decode cJx4a65c_fastRemove_b59b0 36 = .ok (.iload_n 3, 1) := by decide +kernel
theorem dJx4a65c_fastRemove_b59b0_37 : decode cJx4a65c_fastRemove_b59b0 37 = .ok (.dup_x1, 1) := by decide +kernel
theorem dJx4a65c_fastRemove_b59b0_38 : decode cJx4a65c_fastRemove_b59b0 38 = .ok (.putfield 48, 3) := by decide +kernel
theorem dJx4a65c_fastRemove_b59b0_41 : decode cJx4a65c_fastRemove_b59b0 41 = .ok (.aconst_null, 1) := by decide +kernel
theorem dJx4a65c_fastRemove_b59b0_42 : decode cJx4a65c_fastRemove_b59b0 42 = .ok (.aastore, 1) := by decide +kernel
theorem dJx4a65c_fastRemove_b59b0_43 : decode cJx4a65c_fastRemove_b59b0 43 = .ok (.return_, 1) := by decide +kernel
theorem dJx4a65c_rangeCheckForAdd_d00df_0 : decode cJx4a65c_rangeCheckForAdd_d00df 0 = .ok (.iload_n 1, 1) := by decide +kernel
theorem dJx4a65c_rangeCheckForAdd_d00df_1 : decode cJx4a65c_rangeCheckForAdd_d00df 1 = .ok (.aload_n 0, 1) := by decide +kernel
theorem dJx4a65c_rangeCheckForAdd_d00df_2 : decode cJx4a65c_rangeCheckForAdd_d00df 2 = .ok (.getfield 48, 3) := by decide +kernel
theorem dJx4a65c_rangeCheckForAdd_d00df_5 : decode cJx4a65c_rangeCheckForAdd_d00df 5 = .ok (.if_icmp .gt 7, 3) := by decide +kernel
theorem dJx4a65c_rangeCheckForAdd_d00df_8 : decode cJx4a65c_rangeCheckForAdd_d00df 8 = .ok (.iload_n 1, 1) := by decide +kernel
theorem dJx4a65c_rangeCheckForAdd_d00df_9 : decode cJx4a65c_rangeCheckForAdd_d00df 9 = .ok (.ifCond .ge 16, 3) := by decide +kernel
theorem dJx4a65c_rangeCheckForAdd_d00df_12 : decode cJx4a65c_rangeCheckForAdd_d00df 12 = .ok (.new 187, 3) := by decide +kernel
theorem dJx4a65c_rangeCheckForAdd_d00df_15 : decode cJx4a65c_rangeCheckForAdd_d00df 15 = .ok (.dup, 1) := by decide +kernel
theorem dJx4a65c_rangeCheckForAdd_d00df_16 : decode cJx4a65c_rangeCheckForAdd_d00df 16 = .ok (.aload_n 0, 1) := by decide +kernel
theorem dJx4a65c_rangeCheckForAdd_d00df_17 : decode cJx4a65c_rangeCheckForAdd_d00df 17 = .ok (.iload_n 1, 1) := by decide +kernel
theorem dJx4a65c_rangeCheckForAdd_d00df_18 : decode cJx4a65c_rangeCheckForAdd_d00df 18 = .ok (.invokevirtual 198, 3) := by decide +kernel
theorem dJx4a65c_rangeCheckForAdd_d00df_21 : decode cJx4a65c_rangeCheckForAdd_d00df 21 = .ok (.invokespecial 193, 3) := by decide +kernel
theorem dJx4a65c_rangeCheckForAdd_d00df_24 : decode cJx4a65c_rangeCheckForAdd_d00df 24 = .ok (.athrow, 1) := by decide +kernel
theorem dJx4a65c_rangeCheckForAdd_d00df_25 : decode cJx4a65c_rangeCheckForAdd_d00df 25 = .ok (.return_, 1) := by decide +kernel
theorem dJ7_copyOf_1904c_0 : decode cJ7_copyOf_1904c 0 = .ok (.aload_n 0, 1) := by decide +kernel
theorem dJ7_copyOf_1904c_1 : decode cJ7_copyOf_1904c 1 = .ok (.iload_n 1, 1) := by decide +kernel
theorem dJ7_copyOf_1904c_2 : decode cJ7_copyOf_1904c 2 = .ok (.aload_n 0, 1) := by decide +kernel
theorem dJ7_copyOf_1904c_3 : decode cJ7_copyOf_1904c 3 = .ok (.invokevirtual 86, 3) := by decide +kernel
theorem dJ7_copyOf_1904c_6 : decode cJ7_copyOf_1904c 6 = .ok (.invokestatic 300, 3) := by decide +kernel
theorem dJ7_copyOf_1904c_9 : decode cJ7_copyOf_1904c 9 = .ok (.areturn, 1) := by decide +kernel
theorem dJ7_copyOf_6403c_0 : decode cJ7_copyOf_6403c 0 = .ok (.aload_n 2, 1) := by decide +kernel
theorem dJ7_copyOf_6403c_1 : decode cJ7_copyOf_6403c 1 = .ok (.ldc 110, 2) := by decide +kernel
theorem dJ7_copyOf_6403c_3 : decode cJ7_copyOf_6403c 3 = .ok (.if_acmp .ne 10, 3) := by decide +kernel
theorem dJ7_copyOf_6403c_6 : decode cJ7_copyOf_6403c 6 = .ok (.iload_n 1, 1) := by decide +kernel
theorem dJ7_copyOf_6403c_7 : decode cJ7_copyOf_6403c 7 = .ok (.anewarray 2, 3) := by decide +kernel
theorem dJ7_copyOf_6403c_10 : decode cJ7_copyOf_6403c 10 = .ok (.goto 14, 3) := by decide +kernel
theorem dJ7_copyOf_6403c_13 : decode cJ7_copyOf_6403c 13 = .ok (.aload_n 2, 1) := by decide +kernel
theorem dJ7_copyOf_6403c_14 : decode cJ7_copyOf_6403c 14 = .ok (.invokevirtual 90, 3) := by decide +kernel
theorem dJ7_copyOf_6403c_17 : decode cJ7_copyOf_6403c 17 = .ok (.iload_n 1, 1) := by decide +kernel
theorem dJ7_copyOf_6403c_18 : decode cJ7_copyOf_6403c 18 = .ok (.invokestatic 95, 3) := by decide +kernel
theorem dJ7_copyOf_6403c_21 : decode cJ7_copyOf_6403c 21 = .ok (.checkcast 110, 3) := by decide +kernel
theorem dJ7_copyOf_6403c_24 : decode cJ7_copyOf_6403c 24 = .ok (.astore_n 3, 1) := by decide +kernel
theorem dJ7_copyOf_6403c_25 : decode cJ7_copyOf_6403c 25 = .ok (.aload_n 0, 1) := by decide +kernel
theorem dJ7_copyOf_6403c_26 : decode cJ7_copyOf_6403c 26 = .ok (.iconst 0, 1) := by decide +kernel
theorem dJ7_copyOf_6403c_27 : decode cJ7_copyOf_6403c 27 = .ok (.aload_n 3, 1) := by decide +kernel
theorem dJ7_copyOf_6403c_28 : decode cJ7_copyOf_6403c 28 = .ok (.iconst 0, 1) := by decide +kernel
theorem dJ7_copyOf_6403c_29 : decode cJ7_copyOf_6403c 29 = .ok (.aload_n 0, 1) := by decide +kernel
theorem dJ7_copyOf_6403c_30 : decode cJ7_copyOf_6403c 30 = .ok (.arraylength, 1) := by decide +kernel
theorem dJ7_copyOf_6403c_31 : decode cJ7_copyOf_6403c 31 = .ok (.iload_n 1, 1) := by decide +kernel
theorem dJ7_copyOf_6403c_32 : decode cJ7_copyOf_6403c 32 = .ok (.invokestatic 304, 3) := by decide +kernel
theorem dJ7_copyOf_6403c_35 : decode cJ7_copyOf_6403c 35 = .ok (.invokestatic 150, 3) := by decide +kernel
theorem dJ7_copyOf_6403c_38 : decode cJ7_copyOf_6403c 38 = .ok (.aload_n 3, 1) := by decide +kernel
theorem dJ7_copyOf_6403c_39 : decode cJ7_copyOf_6403c 39 = .ok (.areturn, 1) := by decide +kernel
theorem dJ7_copyOf_c38d5_0 : decode cJ7_copyOf_c38d5 0 = .ok (.iload_n 1, 1) := by decide +kernel
theorem dJ7_copyOf_c38d5_1 : decode cJ7_copyOf_c38d5 1 = .ok (.aload_n 0, 1) := by decide +kernel
theorem dJ7_copyOf_c38d5_2 : decode cJ7_copyOf_c38d5 2 = .ok (.arraylength, 1) := by decide +kernel
theorem dJ7_copyOf_c38d5_3 : decode cJ7_copyOf_c38d5 3 = .ok (.if_icmp .ne 11, 3) := by decide +kernel
theorem dJ7_copyOf_c38d5_6 : decode cJ7_copyOf_c38d5 6 = .ok (.aload_n 0, 1) := by decide +kernel
theorem dJ7_copyOf_c38d5_7 : decode cJ7_copyOf_c38d5 7 = .ok (.invokevirtual 319, 3) := by decide +kernel
theorem dJ7_copyOf_c38d5_10 : decode cJ7_copyOf_c38d5 10 = .ok (.checkcast 320, 3) := by decide +kernel
theorem dJ7_copyOf_c38d5_13 : decode cJ7_copyOf_c38d5 13 = .ok (.areturn, 1) := by decide +kernel
theorem dJ7_copyOf_c38d5_14 : decode cJ7_copyOf_c38d5 14 = .ok (.iload_n 1, 1) := by decide +kernel
theorem dJ7_copyOf_c38d5_15 : decode cJ7_copyOf_c38d5 15 = .ok (.newarray .long, 2) := by decide +kernel
theorem dJ7_copyOf_c38d5_17 : decode cJ7_copyOf_c38d5 17 = .ok (.astore_n 2, 1) := by decide +kernel
theorem dJ7_copyOf_c38d5_18 : decode cJ7_copyOf_c38d5 18 = .ok (.aload_n 0, 1) := by decide +kernel
theorem dJ7_copyOf_c38d5_19 : decode cJ7_copyOf_c38d5 19 = .ok (.iconst 0, 1) := by decide +kernel
theorem dJ7_copyOf_c38d5_20 : decode cJ7_copyOf_c38d5 20 = .ok (.aload_n 2, 1) := by decide +kernel
theorem dJ7_copyOf_c38d5_21 : decode cJ7_copyOf_c38d5 21 = .ok (.iconst 0, 1) := by decide +kernel
theorem dJ7_copyOf_c38d5_22 : decode cJ7_copyOf_c38d5 22 = .ok (.aload_n 0, 1) := by decide +kernel
theorem dJ7_copyOf_c38d5_23 : decode cJ7_copyOf_c38d5 23 = .ok (.arraylength, 1) := by decide +kernel
theorem dJ7_copyOf_c38d5_24 : decode cJ7_copyOf_c38d5 24 = .ok (.iload_n 1, 1) := by decide +kernel
theorem dJ7_copyOf_c38d5_25 : decode cJ7_copyOf_c38d5 25 = .ok (.invokestatic 304, 3) := by decide +kernel
theorem dJ7_copyOf_c38d5_28 : decode cJ7_copyOf_c38d5 28 = .ok (.invokestatic 150, 3) := by decide +kernel
theorem dJ7_copyOf_c38d5_31 : decode cJ7_copyOf_c38d5 31 = .ok (.aload_n 2, 1) := by decide +kernel
theorem dJ7_copyOf_c38d5_32 : decode cJ7_copyOf_c38d5 32 = .ok (.areturn, 1) := by decide +kernel
theorem dJ15_checkIndex_7cf53_0 : decode cJ15_checkIndex_7cf53 0 = .ok (.iload_n 0, 1) := by decide +kernel
theorem dJ15_checkIndex_7cf53_1 : decode cJ15_checkIndex_7cf53 1 = .ok (.iload_n 1, 1) := by decide +kernel
theorem dJ15_checkIndex_7cf53_2 : decode cJ15_checkIndex_7cf53 2 = .ok (.aconst_null, 1) := by decide +kernel
theorem dJ15_checkIndex_7cf53_3 : decode cJ15_checkIndex_7cf53 3 = .ok (.invokestatic 105, 3) := by decide +kernel
theorem dJ15_checkIndex_7cf53_6 : decode cJ15_checkIndex_7cf53 6 = .ok (.ireturn, 1) := by decide +kernel
theorem dJ8_newLength_cabcc_0 : decode cJ8_newLength_cabcc 0 = .ok (.iload_n 0, 1) := by decide +kernel
theorem dJ8_newLength_cabcc_1 : decode cJ8_newLength_cabcc 1 = .ok (.iload_n 1, 1) := by decide +kernel
theorem dJ8_newLength_cabcc_2 : decode cJ8_newLength_cabcc 2 = .ok (.iload_n 2, 1) := by decide +kernel
theorem dJ8_newLength_cabcc_3 : decode cJ8_newLength_cabcc 3 = .ok (.invokestatic 194, 3) := by decide +kernel
theorem dJ8_newLength_cabcc_6 : decode cJ8_newLength_cabcc 6 = .ok (.iadd, 1) := by decide +kernel
theorem dJ8_newLength_cabcc_7 : decode cJ8_newLength_cabcc 7 = .ok (.istore_n 3, 1) := by decide +kernel
theorem dJ8_newLength_cabcc_8 : decode cJ8_newLength_cabcc 8 = .ok (.iconst 0, 1) := by decide +kernel
theorem dJ8_newLength_cabcc_9 : decode cJ8_newLength_cabcc 9 = .ok (.iload_n 3, 1) := by decide +kernel
theorem dJ8_newLength_cabcc_10 : decode cJ8_newLength_cabcc 10 = .ok (.if_icmp .ge 11, 3) := by decide +kernel
theorem dJ8_newLength_cabcc_13 : decode cJ8_newLength_cabcc 13 = .ok (.iload_n 3, 1) := by decide +kernel
theorem dJ8_newLength_cabcc_14 : decode cJ8_newLength_cabcc 14 = .ok (.ldc 200, 2) := by decide +kernel
theorem dJ8_newLength_cabcc_16 : decode cJ8_newLength_cabcc 16 = .ok (.if_icmp .gt 5, 3) := by decide +kernel
theorem dJ8_newLength_cabcc_19 : decode cJ8_newLength_cabcc 19 = .ok (.iload_n 3, 1) := by decide +kernel
theorem dJ8_newLength_cabcc_20 : decode cJ8_newLength_cabcc 20 = .ok (.ireturn, 1) := by decide +kernel
theorem dJ8_newLength_cabcc_21 : decode cJ8_newLength_cabcc 21 = .ok (.iload_n 0, 1) := by decide +kernel
theorem dJ8_newLength_cabcc_22 : decode cJ8_newLength_cabcc 22 = .ok (.iload_n 1, 1) := by decide +kernel
theorem dJ8_newLength_cabcc_23 : decode cJ8_newLength_cabcc 23 = .ok (.invokestatic 201, 3) := by decide +kernel
theorem dJ8_newLength_cabcc_26 : decode cJ8_newLength_cabcc 26 = .ok (.ireturn, 1) := by decide +kernel
theorem dJ8_hugeLength_7cf53_0 : decode cJ8_hugeLength_7cf53 0 = .ok (.iload_n 0, 1) := by decide +kernel
theorem dJ8_hugeLength_7cf53_1 : decode cJ8_hugeLength_7cf53 1 = .ok (.iload_n 1, 1) := by decide +kernel
theorem dJ8_hugeLength_7cf53_2 : decode cJ8_hugeLength_7cf53 2 = .ok (.iadd, 1) := by decide +kernel
theorem dJ8_hugeLength_7cf53_3 : decode cJ8_hugeLength_7cf53 3 = .ok (.istore_n 2, 1) := by decide +kernel
theorem dJ8_hugeLength_7cf53_4 : decode cJ8_hugeLength_7cf53 4 = .ok (.iload_n 2, 1) := by decide +kernel
theorem dJ8_hugeLength_7cf53_5 : decode cJ8_hugeLength_7cf53 5 = .ok (.ifCond .ge 44, 3) := by decide +kernel
theorem dJ8_hugeLength_7cf53_8 : decode cJ8_hugeLength_7cf53 8 = .ok (.new 204, 3) := by decide +kernel
theorem dJ8_hugeLength_7cf53_11 : decode cJ8_hugeLength_7cf53 11 = .ok (.dup, 1) := by decide +kernel
theorem dJ8_hugeLength_7cf53_12 : decode cJ8_hugeLength_7cf53 12 = .ok (.new 89, 3) := by decide +kernel
theorem dJ8_hugeLength_7cf53_15 : decode cJ8_hugeLength_7cf53 15 = .ok (.dup, 1) := by decide +kernel
theorem dJ8_hugeLength_7cf53_16 : decode cJ8_hugeLength_7cf53 16 = .ok (.invokespecial 91, 3) := by decide +kernel
theorem dJ8_hugeLength_7cf53_19 : decode cJ8_hugeLength_7cf53 19 = .ok (.ldc 206, 2) := by decide +kernel
